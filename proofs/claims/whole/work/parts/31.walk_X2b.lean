/-! walks, by program out of the listing: 31.walk_X2b -/
def f_X2_put (v1 : Int32) (v2 : Int32) (v3 : Int32) (M : Mem) : Option (Int32 × Mem) :=
  (bR (f_X2_isText v1 M) (fun r1 => (if r1 = 0 then (some ((-1), M)) else (grd (inb v1 4) (if 0 ≤ (M.1 3 (ix v1)) then (grd (inb v1 4) (bR (f_X2_in v2 0 ((M.1 3 (ix v1)) - 1) M) (fun r34 => (if r34 = 0 then (bI (f_X2_found 2 M) (fun r42 M42 => (some (r42, M42)))) else (grd (inb ((60 * v1) + v2) 240) (grd (inb ((60 * v1) + v2) 240) (lt (sI M 4 (ix ((60 * v1) + v2)) (shr (shl v3 24) 24)) (fun M76 => (some (((M.1 4 (ix ((60 * v1) + v2))) + 1000), M76)))))))))) else (bI (f_X2_found 1 M) (fun r20 M20 => (some (r20, M20)))))))))
set_option maxHeartbeats 4000000 in
set_option maxRecDepth 100000 in
theorem c_X2_put (l : Launch) (D : va_G) (cy : Nat → ClassId) (ad : Nat → Nat)   {v1 : Int32} {v2 : Int32} {v3 : Int32} {M M' : Mem} {r : Int32} (hf : f_X2_put v1 v2 v3 M = some (r, M')) : MetX l 20 (CM ad cy) D cy ad yX2_put cX2_put 5 (some .int) 2 [.ref (ad 0), .int v1, .int v2, .int v3] M (fun A => QI r M' 20 (CM ad cy) D cy ad A) := by
  refine MetX.of (own := RX2) (by decide) rfl (Nat.le_of_ble_eq_true rfl) ?_
  intro p e s m below meth c A Q ls X hr hlk hZ hA hQ hW hl
  have hl : lv_has ls 5 [(0, .ref (ad 0)), (1, .int v1), (2, .int v2), (3, .int v3)] := hl
  have hx := X.1
  have hb := X.2.1
  obtain ⟨H, hH⟩ : ∃ H, H = s.heap := ⟨_, rfl⟩
  obtain ⟨locs, hlo⟩ : ∃ q : List Loc, q = [] := ⟨_, rfl⟩
  have hW : Wd D 20 ad (CM ad cy) A s.heap M H locs := by rw [hH, hlo]; exact hW
  suffices hh : W p l e (rmD 2) s m ([.ref (ad 0), .int v1, .int v2, .int v3] : List Value).toArray below meth c H locs 0 0 Q (F0 m 0 ls []) by rw [hH, hlo] at hh; exact hh
  unfold f_X2_put at hf
  refine lv_iload_n hx hb dX2_put_0 rfl (lv_at hl 1 rfl) ?_
  obtain ⟨r1, h1, hf⟩ := bR_some hf
  refine g_calliS X hl.1 hZ hA hW (c_X2_isText l D cy ad h1) cs_X2_isText ql_X2_105 rfl (by decide) rfl (Nat.le_of_ble_eq_true rfl) dX2_put_1 (fun H locs hW => ?_)
  refine lv_if_ne (tgt := 9) hx hb dX2_put_4 (by decide) (fun hc => ?_) (fun hc => ?_)
  · replace hf := ifn hc hf
    refine lv_aload_n hx hb dX2_put_9 rfl (lv_at hl 0 rfl) ?_
    refine gf_X2_16 X hW dX2_put_10 ?_
    refine lv_iload_n hx hb dX2_put_13 rfl (lv_at hl 1 rfl) ?_
    obtain ⟨hi14, hf⟩ := grd_some hf
    refine g_iald X hW iM_textSize hi14 dX2_put_14 ?_
    refine lv_if_ge (tgt := 24) hx hb dX2_put_15 (by decide) (fun hc => ?_) (fun hc => ?_)
    · replace hf := ifp hc hf
      refine lv_iload_n hx hb dX2_put_24 rfl (lv_at hl 2 rfl) ?_
      refine lv_iconst (v := 0) hx hb dX2_put_25 (by decide) ?_
      refine lv_aload_n hx hb dX2_put_26 rfl (lv_at hl 0 rfl) ?_
      refine gf_X2_16 X hW dX2_put_27 ?_
      refine lv_iload_n hx hb dX2_put_30 rfl (lv_at hl 1 rfl) ?_
      obtain ⟨hi31, hf⟩ := grd_some hf
      refine g_iald X hW iM_textSize hi31 dX2_put_31 ?_
      refine lv_iconst (v := 1) hx hb dX2_put_32 (by decide) ?_
      refine lv_isub hx hb dX2_put_33 ?_
      obtain ⟨r34, h34, hf⟩ := bR_some hf
      refine g_calliS X hl.1 hZ hA hW (c_X2_in l D cy ad h34) cs_X2_in ql_X2_82 rfl (by decide) rfl (Nat.le_of_ble_eq_true rfl) dX2_put_34 (fun H locs hW => ?_)
      refine lv_if_ne (tgt := 46) hx hb dX2_put_37 (by decide) (fun hc => ?_) (fun hc => ?_)
      · replace hf := ifn hc hf
        refine lv_aload_n hx hb dX2_put_46 rfl (lv_at hl 0 rfl) ?_
        refine gf_X2_19 X hW dX2_put_47 ?_
        refine lv_bipush (v := 60) hx hb dX2_put_50 (by decide) ?_
        refine lv_iload_n hx hb dX2_put_52 rfl (lv_at hl 1 rfl) ?_
        refine lv_imul hx hb dX2_put_53 ?_
        refine lv_iload_n hx hb dX2_put_54 rfl (lv_at hl 2 rfl) ?_
        refine lv_iadd hx hb dX2_put_55 ?_
        obtain ⟨hi56, hf⟩ := grd_some hf
        refine g_iald X hW iM_texts hi56 dX2_put_56 ?_
        refine lv_istore (lv' := [(4, .int (M.1 4 (ix ((60 * v1) + v2)))), (0, .ref (ad 0)), (1, .int v1), (2, .int v2), (3, .int v3)]) hx hb dX2_put_57 hl (by decide) rfl (fun ls hl => ?_)
        refine lv_aload_n hx hb dX2_put_59 rfl (lv_at hl 1 rfl) ?_
        refine gf_X2_19 X hW dX2_put_60 ?_
        refine lv_bipush (v := 60) hx hb dX2_put_63 (by decide) ?_
        refine lv_iload_n hx hb dX2_put_65 rfl (lv_at hl 2 rfl) ?_
        refine lv_imul hx hb dX2_put_66 ?_
        refine lv_iload_n hx hb dX2_put_67 rfl (lv_at hl 3 rfl) ?_
        refine lv_iadd hx hb dX2_put_68 ?_
        refine lv_iload_n hx hb dX2_put_69 rfl (lv_at hl 4 rfl) ?_
        refine lv_bipush (v := 24) hx hb dX2_put_70 (by decide) ?_
        refine r_ishl hx hb dX2_put_72 ?_
        refine lv_bipush (v := 24) hx hb dX2_put_73 (by decide) ?_
        refine r_ishr hx hb dX2_put_75 ?_
        obtain ⟨hi76, hf⟩ := grd_some hf
        refine g_iast X hW iM_texts hi76 dX2_put_76 (fun H locs hW => ?_)
        obtain ⟨M76, e76, hf⟩ := lt_some hf
        have hW : Wd D 20 ad (CM ad cy) A s.heap M76 H locs := by rw [e76]; exact hW
        refine lv_iload hx hb dX2_put_77 (lv_at hl 0 rfl) ?_
        refine lv_sipush (v := 1000) hx hb dX2_put_79 (by decide) ?_
        refine lv_iadd hx hb dX2_put_82 ?_
        exact g_iret X hr hlk hQ hW dX2_put_83 hf
      · replace hf := ifp hc hf
        refine lv_aload_n hx hb dX2_put_40 rfl (lv_at hl 0 rfl) ?_
        refine lv_iconst (v := 2) hx hb dX2_put_41 (by decide) ?_
        obtain ⟨r42, M42, h42, hf⟩ := bI_some hf
        refine g_calliV X hl.1 hZ hA hW (c_X2_found l D cy ad h42) cw_X2_found ql_X2_90 iO_X2 rfl (by decide) rfl (Nat.le_of_ble_eq_true rfl) dX2_put_42 (fun H locs hW => ?_)
        exact g_iret X hr hlk hQ hW dX2_put_45 hf
    · replace hf := ifn hc hf
      refine lv_aload_n hx hb dX2_put_18 rfl (lv_at hl 0 rfl) ?_
      refine lv_iconst (v := 1) hx hb dX2_put_19 (by decide) ?_
      obtain ⟨r20, M20, h20, hf⟩ := bI_some hf
      refine g_calliV X hl.1 hZ hA hW (c_X2_found l D cy ad h20) cw_X2_found ql_X2_90 iO_X2 rfl (by decide) rfl (Nat.le_of_ble_eq_true rfl) dX2_put_20 (fun H locs hW => ?_)
      exact g_iret X hr hlk hQ hW dX2_put_23 hf
  · replace hf := ifp hc hf
    refine lv_iconst (v := (-1)) hx hb dX2_put_7 (by decide) ?_
    exact g_iret X hr hlk hQ hW dX2_put_8 hf

def f_X2_kindBy (v0 : Int32) (M : Mem) : Option Int32 :=
  (if v0 = 100 then (some 5) else (if v0 = 101 then (some 2) else (if v0 = 102 then (some 4) else (if v0 = 103 then (some (-1)) else (if v0 = 104 then (some (-1)) else (if v0 = 105 then (some (-1)) else (if v0 = 106 then (some (-1)) else (if v0 = 107 then (some (-1)) else (if v0 = 108 then (some (-1)) else (if v0 = 109 then (some (-1)) else (if v0 = 110 then (some (-1)) else (if v0 = 111 then (some (-1)) else (if v0 = 112 then (some (-1)) else (if v0 = 113 then (some (-1)) else (if v0 = 114 then (some (-1)) else (if v0 = 115 then (some 3) else (if v0 = 116 then (some 0) else (if v0 = 117 then (some (-1)) else (if v0 = 118 then (some (-1)) else (if v0 = 119 then (some 1) else (some (-1))))))))))))))))))))))
set_option maxHeartbeats 4000000 in
set_option maxRecDepth 100000 in
theorem c_X2_kindBy (l : Launch) (D : va_G) (cy : Nat → ClassId) (ad : Nat → Nat)   {v0 : Int32} {M : Mem} {r : Int32} (hf : f_X2_kindBy v0 M = some r) : MetX l 20 (CM ad cy) D cy ad yX2_kindBy cX2_kindBy 1 (some .int) 0 [.int v0] M (fun A => QI r M 20 (CM ad cy) D cy ad A) := by
  refine MetX.of (own := RX2) (by decide) rfl (Nat.le_of_ble_eq_true rfl) ?_
  intro p e s m below meth c A Q ls X hr hlk hZ hA hQ hW hl
  have hl : lv_has ls 1 [(0, .int v0)] := hl
  have hx := X.1
  have hb := X.2.1
  obtain ⟨H, hH⟩ : ∃ H, H = s.heap := ⟨_, rfl⟩
  obtain ⟨locs, hlo⟩ : ∃ q : List Loc, q = [] := ⟨_, rfl⟩
  have hW : Wd D 20 ad (CM ad cy) A s.heap M H locs := by rw [hH, hlo]; exact hW
  suffices hh : W p l e (rmD 0) s m ([.int v0] : List Value).toArray below meth c H locs 0 0 Q (F0 m 0 ls []) by rw [hH, hlo] at hh; exact hh
  unfold f_X2_kindBy at hf
  refine lv_iload_n hx hb dX2_kindBy_0 rfl (lv_at hl 0 rfl) ?_
  by_cases hc100 : v0 = 100
  · replace hf := ifp hc100 hf
    refine lv_tableIn (tgt := 106) hx hb dX2_kindBy_1 (by rw [hc100]; decide) (by rw [hc100]; decide) (by rw [hc100]; rfl) (by decide) ?_
    refine lv_iconst (v := 5) hx hb dX2_kindBy_106 (by decide) ?_
    exact g_iret X hr hlk hQ hW dX2_kindBy_107 (rd_some hf)
  · replace hf := ifn hc100 hf
    by_cases hc101 : v0 = 101
    · replace hf := ifp hc101 hf
      refine lv_tableIn (tgt := 100) hx hb dX2_kindBy_1 (by rw [hc101]; decide) (by rw [hc101]; decide) (by rw [hc101]; rfl) (by decide) ?_
      refine lv_iconst (v := 2) hx hb dX2_kindBy_100 (by decide) ?_
      exact g_iret X hr hlk hQ hW dX2_kindBy_101 (rd_some hf)
    · replace hf := ifn hc101 hf
      by_cases hc102 : v0 = 102
      · replace hf := ifp hc102 hf
        refine lv_tableIn (tgt := 104) hx hb dX2_kindBy_1 (by rw [hc102]; decide) (by rw [hc102]; decide) (by rw [hc102]; rfl) (by decide) ?_
        refine lv_iconst (v := 4) hx hb dX2_kindBy_104 (by decide) ?_
        exact g_iret X hr hlk hQ hW dX2_kindBy_105 (rd_some hf)
      · replace hf := ifn hc102 hf
        by_cases hc103 : v0 = 103
        · replace hf := ifp hc103 hf
          refine lv_tableIn (tgt := 108) hx hb dX2_kindBy_1 (by rw [hc103]; decide) (by rw [hc103]; decide) (by rw [hc103]; rfl) (by decide) ?_
          refine lv_iconst (v := (-1)) hx hb dX2_kindBy_108 (by decide) ?_
          exact g_iret X hr hlk hQ hW dX2_kindBy_109 (rd_some hf)
        · replace hf := ifn hc103 hf
          by_cases hc104 : v0 = 104
          · replace hf := ifp hc104 hf
            refine lv_tableIn (tgt := 108) hx hb dX2_kindBy_1 (by rw [hc104]; decide) (by rw [hc104]; decide) (by rw [hc104]; rfl) (by decide) ?_
            refine lv_iconst (v := (-1)) hx hb dX2_kindBy_108 (by decide) ?_
            exact g_iret X hr hlk hQ hW dX2_kindBy_109 (rd_some hf)
          · replace hf := ifn hc104 hf
            by_cases hc105 : v0 = 105
            · replace hf := ifp hc105 hf
              refine lv_tableIn (tgt := 108) hx hb dX2_kindBy_1 (by rw [hc105]; decide) (by rw [hc105]; decide) (by rw [hc105]; rfl) (by decide) ?_
              refine lv_iconst (v := (-1)) hx hb dX2_kindBy_108 (by decide) ?_
              exact g_iret X hr hlk hQ hW dX2_kindBy_109 (rd_some hf)
            · replace hf := ifn hc105 hf
              by_cases hc106 : v0 = 106
              · replace hf := ifp hc106 hf
                refine lv_tableIn (tgt := 108) hx hb dX2_kindBy_1 (by rw [hc106]; decide) (by rw [hc106]; decide) (by rw [hc106]; rfl) (by decide) ?_
                refine lv_iconst (v := (-1)) hx hb dX2_kindBy_108 (by decide) ?_
                exact g_iret X hr hlk hQ hW dX2_kindBy_109 (rd_some hf)
              · replace hf := ifn hc106 hf
                by_cases hc107 : v0 = 107
                · replace hf := ifp hc107 hf
                  refine lv_tableIn (tgt := 108) hx hb dX2_kindBy_1 (by rw [hc107]; decide) (by rw [hc107]; decide) (by rw [hc107]; rfl) (by decide) ?_
                  refine lv_iconst (v := (-1)) hx hb dX2_kindBy_108 (by decide) ?_
                  exact g_iret X hr hlk hQ hW dX2_kindBy_109 (rd_some hf)
                · replace hf := ifn hc107 hf
                  by_cases hc108 : v0 = 108
                  · replace hf := ifp hc108 hf
                    refine lv_tableIn (tgt := 108) hx hb dX2_kindBy_1 (by rw [hc108]; decide) (by rw [hc108]; decide) (by rw [hc108]; rfl) (by decide) ?_
                    refine lv_iconst (v := (-1)) hx hb dX2_kindBy_108 (by decide) ?_
                    exact g_iret X hr hlk hQ hW dX2_kindBy_109 (rd_some hf)
                  · replace hf := ifn hc108 hf
                    by_cases hc109 : v0 = 109
                    · replace hf := ifp hc109 hf
                      refine lv_tableIn (tgt := 108) hx hb dX2_kindBy_1 (by rw [hc109]; decide) (by rw [hc109]; decide) (by rw [hc109]; rfl) (by decide) ?_
                      refine lv_iconst (v := (-1)) hx hb dX2_kindBy_108 (by decide) ?_
                      exact g_iret X hr hlk hQ hW dX2_kindBy_109 (rd_some hf)
                    · replace hf := ifn hc109 hf
                      by_cases hc110 : v0 = 110
                      · replace hf := ifp hc110 hf
                        refine lv_tableIn (tgt := 108) hx hb dX2_kindBy_1 (by rw [hc110]; decide) (by rw [hc110]; decide) (by rw [hc110]; rfl) (by decide) ?_
                        refine lv_iconst (v := (-1)) hx hb dX2_kindBy_108 (by decide) ?_
                        exact g_iret X hr hlk hQ hW dX2_kindBy_109 (rd_some hf)
                      · replace hf := ifn hc110 hf
                        by_cases hc111 : v0 = 111
                        · replace hf := ifp hc111 hf
                          refine lv_tableIn (tgt := 108) hx hb dX2_kindBy_1 (by rw [hc111]; decide) (by rw [hc111]; decide) (by rw [hc111]; rfl) (by decide) ?_
                          refine lv_iconst (v := (-1)) hx hb dX2_kindBy_108 (by decide) ?_
                          exact g_iret X hr hlk hQ hW dX2_kindBy_109 (rd_some hf)
                        · replace hf := ifn hc111 hf
                          by_cases hc112 : v0 = 112
                          · replace hf := ifp hc112 hf
                            refine lv_tableIn (tgt := 108) hx hb dX2_kindBy_1 (by rw [hc112]; decide) (by rw [hc112]; decide) (by rw [hc112]; rfl) (by decide) ?_
                            refine lv_iconst (v := (-1)) hx hb dX2_kindBy_108 (by decide) ?_
                            exact g_iret X hr hlk hQ hW dX2_kindBy_109 (rd_some hf)
                          · replace hf := ifn hc112 hf
                            by_cases hc113 : v0 = 113
                            · replace hf := ifp hc113 hf
                              refine lv_tableIn (tgt := 108) hx hb dX2_kindBy_1 (by rw [hc113]; decide) (by rw [hc113]; decide) (by rw [hc113]; rfl) (by decide) ?_
                              refine lv_iconst (v := (-1)) hx hb dX2_kindBy_108 (by decide) ?_
                              exact g_iret X hr hlk hQ hW dX2_kindBy_109 (rd_some hf)
                            · replace hf := ifn hc113 hf
                              by_cases hc114 : v0 = 114
                              · replace hf := ifp hc114 hf
                                refine lv_tableIn (tgt := 108) hx hb dX2_kindBy_1 (by rw [hc114]; decide) (by rw [hc114]; decide) (by rw [hc114]; rfl) (by decide) ?_
                                refine lv_iconst (v := (-1)) hx hb dX2_kindBy_108 (by decide) ?_
                                exact g_iret X hr hlk hQ hW dX2_kindBy_109 (rd_some hf)
                              · replace hf := ifn hc114 hf
                                by_cases hc115 : v0 = 115
                                · replace hf := ifp hc115 hf
                                  refine lv_tableIn (tgt := 102) hx hb dX2_kindBy_1 (by rw [hc115]; decide) (by rw [hc115]; decide) (by rw [hc115]; rfl) (by decide) ?_
                                  refine lv_iconst (v := 3) hx hb dX2_kindBy_102 (by decide) ?_
                                  exact g_iret X hr hlk hQ hW dX2_kindBy_103 (rd_some hf)
                                · replace hf := ifn hc115 hf
                                  by_cases hc116 : v0 = 116
                                  · replace hf := ifp hc116 hf
                                    refine lv_tableIn (tgt := 96) hx hb dX2_kindBy_1 (by rw [hc116]; decide) (by rw [hc116]; decide) (by rw [hc116]; rfl) (by decide) ?_
                                    refine lv_iconst (v := 0) hx hb dX2_kindBy_96 (by decide) ?_
                                    exact g_iret X hr hlk hQ hW dX2_kindBy_97 (rd_some hf)
                                  · replace hf := ifn hc116 hf
                                    by_cases hc117 : v0 = 117
                                    · replace hf := ifp hc117 hf
                                      refine lv_tableIn (tgt := 108) hx hb dX2_kindBy_1 (by rw [hc117]; decide) (by rw [hc117]; decide) (by rw [hc117]; rfl) (by decide) ?_
                                      refine lv_iconst (v := (-1)) hx hb dX2_kindBy_108 (by decide) ?_
                                      exact g_iret X hr hlk hQ hW dX2_kindBy_109 (rd_some hf)
                                    · replace hf := ifn hc117 hf
                                      by_cases hc118 : v0 = 118
                                      · replace hf := ifp hc118 hf
                                        refine lv_tableIn (tgt := 108) hx hb dX2_kindBy_1 (by rw [hc118]; decide) (by rw [hc118]; decide) (by rw [hc118]; rfl) (by decide) ?_
                                        refine lv_iconst (v := (-1)) hx hb dX2_kindBy_108 (by decide) ?_
                                        exact g_iret X hr hlk hQ hW dX2_kindBy_109 (rd_some hf)
                                      · replace hf := ifn hc118 hf
                                        by_cases hc119 : v0 = 119
                                        · replace hf := ifp hc119 hf
                                          refine lv_tableIn (tgt := 98) hx hb dX2_kindBy_1 (by rw [hc119]; decide) (by rw [hc119]; decide) (by rw [hc119]; rfl) (by decide) ?_
                                          refine lv_iconst (v := 1) hx hb dX2_kindBy_98 (by decide) ?_
                                          exact g_iret X hr hlk hQ hW dX2_kindBy_99 (rd_some hf)
                                        · replace hf := ifn hc119 hf
                                          refine lv_tableOut (tgt := 108) hx hb dX2_kindBy_1 (by have q100 := sw_ne (a := 100) hc100 (by decide); have q101 := sw_ne (a := 101) hc101 (by decide); have q102 := sw_ne (a := 102) hc102 (by decide); have q103 := sw_ne (a := 103) hc103 (by decide); have q104 := sw_ne (a := 104) hc104 (by decide); have q105 := sw_ne (a := 105) hc105 (by decide); have q106 := sw_ne (a := 106) hc106 (by decide); have q107 := sw_ne (a := 107) hc107 (by decide); have q108 := sw_ne (a := 108) hc108 (by decide); have q109 := sw_ne (a := 109) hc109 (by decide); have q110 := sw_ne (a := 110) hc110 (by decide); have q111 := sw_ne (a := 111) hc111 (by decide); have q112 := sw_ne (a := 112) hc112 (by decide); have q113 := sw_ne (a := 113) hc113 (by decide); have q114 := sw_ne (a := 114) hc114 (by decide); have q115 := sw_ne (a := 115) hc115 (by decide); have q116 := sw_ne (a := 116) hc116 (by decide); have q117 := sw_ne (a := 117) hc117 (by decide); have q118 := sw_ne (a := 118) hc118 (by decide); have q119 := sw_ne (a := 119) hc119 (by decide); omega) (by decide) ?_
                                          refine lv_iconst (v := (-1)) hx hb dX2_kindBy_108 (by decide) ?_
                                          exact g_iret X hr hlk hQ hW dX2_kindBy_109 (rd_some hf)

def f_X2_reading_L76 (v2_L76 : Int32) (v3_L76 : Int32) (v4_L76 : Int32) (M_L76 : Mem) (k124 : Int32 → Int32 → Mem → Option (Int32 × Mem)) (k136 : Option (Int32 × Mem)) : Nat → Int32 → Option (Int32 × Mem)
  | 0, _ => none
  | n + 1, v5_L76 => (if 3 ≤ v5_L76 then k136 else (if (v4_L76 + v5_L76) = v3_L76 then (k124 v4_L76 v5_L76 M_L76) else (grd (inb ((v2_L76 + v4_L76) + v5_L76) 240) (jn (fun (k116 : Int32 → Option (Int32 × Mem)) => (if v5_L76 = 1 then (k116 50) else (k116 48))) (fun (t0_116j : Int32) => (bR (f_X2_in (M_L76.1 4 (ix ((v2_L76 + v4_L76) + v5_L76))) t0_116j 57 M_L76) (fun r118 => (if r118 = 0 then (k124 v4_L76 v5_L76 M_L76) else (f_X2_reading_L76 v2_L76 v3_L76 v4_L76 M_L76 k124 k136 n (v5_L76 + 1))))))))))
def f_X2_reading_L20 (v2_L20 : Int32) (v3_L20 : Int32) (k124 : Int32 → Int32 → Mem → Option (Int32 × Mem)) (k219 : Mem → Option (Int32 × Mem)) : Nat → Int32 → Mem → Option (Int32 × Mem)
  | 0, _, _ => none
  | n + 1, v4_L20, M_L20 => (if v3_L20 ≤ v4_L20 then (k219 M_L20) else (grd (inb (v2_L20 + v4_L20) 240) (if (M_L20.1 4 (ix (v2_L20 + v4_L20))) = 32 then (f_X2_reading_L20 v2_L20 v3_L20 k124 k219 n (v4_L20 + 1) M_L20) else (if (M_L20.1 0 19) = 7 then (some (v4_L20, M_L20)) else (grd (inb (v2_L20 + v4_L20) 240) (bR (f_X2_kindBy (M_L20.1 4 (ix (v2_L20 + v4_L20))) M_L20) (fun r64 => (if 0 ≤ r64 then (jn (fun (k136 : Option (Int32 × Mem)) => (f_X2_reading_L76 v2_L20 v3_L20 v4_L20 M_L20 k124 k136 FU 1)) ((grd (inb (v2_L20 + v4_L20) 240) (bR (f_X2_kindBy (M_L20.1 4 (ix (v2_L20 + v4_L20))) M_L20) (fun r153 => (grd (inb (M_L20.1 0 19) 7) (lt (sI M_L20 14 (ix (M_L20.1 0 19)) r153) (fun M156 => (grd (inb ((v2_L20 + v4_L20) + 1) 240) (grd (inb (M156.1 0 19) 7) (lt (sI M156 15 (ix (M156.1 0 19)) ((M156.1 4 (ix ((v2_L20 + v4_L20) + 1))) - 48)) (fun M179 => (grd (inb ((v2_L20 + v4_L20) + 2) 240) (grd (inb (M179.1 0 19) 7) (lt (sI M179 16 (ix (M179.1 0 19)) ((M179.1 4 (ix ((v2_L20 + v4_L20) + 2))) - 48)) (fun M202 => (lt (sI M202 0 19 ((M202.1 0 19) + 1)) (fun M210 => (f_X2_reading_L20 v2_L20 v3_L20 k124 k219 n (v4_L20 + 3) M210))))))))))))))))))) else (some (v4_L20, M_L20))))))))))
def f_X2_reading (v1 : Int32) (M : Mem) : Option (Int32 × Mem) :=
  (grd (inb v1 4) (lt (sI M 0 19 0) (fun M17 => (jn (fun (k219 : Mem → Option (Int32 × Mem)) => (jn (fun (k124 : Int32 → Int32 → Mem → Option (Int32 × Mem)) => (f_X2_reading_L20 (60 * v1) (M.1 3 (ix v1)) k124 k219 FU 0 M17)) (fun (v4_124x : Int32) (v5_124x : Int32) (M_124x : Mem) => (some ((v4_124x + v5_124x), M_124x))))) (fun  (M_219x : Mem) => (if 2 ≤ (M_219x.1 0 19) then (some ((-9), M_219x)) else (some ((M.1 3 (ix v1)), M_219x))))))))
set_option maxHeartbeats 4000000 in
set_option maxRecDepth 100000 in
theorem c_X2_reading (l : Launch) (D : va_G) (cy : Nat → ClassId) (ad : Nat → Nat)   {v1 : Int32} {M M' : Mem} {r : Int32} (hf : f_X2_reading v1 M = some (r, M')) : MetX l 20 (CM ad cy) D cy ad yX2_reading cX2_reading 6 (some .int) 1 [.ref (ad 0), .int v1] M (fun A => QI r M' 20 (CM ad cy) D cy ad A) := by
  refine MetX.of (own := RX2) (by decide) rfl (Nat.le_of_ble_eq_true rfl) ?_
  intro p e s m below meth c A Q ls X hr hlk hZ hA hQ hW hl
  have hl : lv_has ls 6 [(0, .ref (ad 0)), (1, .int v1)] := hl
  have hx := X.1
  have hb := X.2.1
  have hL76 : ∀ (v2_L76 : Int32) (v3_L76 : Int32) (v4_L76 : Int32) (M_L76 : Mem) (k124 : Int32 → Int32 → Mem → Option (Int32 × Mem)) (hJ124 : ∀ (v4_124x : Int32) (v5_124x : Int32) (M_124x : Mem) (H : Heap) (locs : List Loc) (ls : Array Slot), k124 v4_124x v5_124x M_124x = some (r, M') → Wd D 20 ad (CM ad cy) A s.heap M_124x H locs → lv_has ls 6 [(4, .int v4_124x), (5, .int v5_124x)] → W p l e (rmD 1) s m ([.ref (ad 0), .int v1] : List Value).toArray below meth c H locs 0 0 Q (F0 m 124 ls [])) (k136 : Option (Int32 × Mem)) (hJ136 : ∀  (H : Heap) (locs : List Loc) (ls : Array Slot), k136 = some (r, M') → Wd D 20 ad (CM ad cy) A s.heap M_L76 H locs → lv_has ls 6 [(0, .ref (ad 0)), (2, .int v2_L76), (3, .int v3_L76), (4, .int v4_L76)] → W p l e (rmD 1) s m ([.ref (ad 0), .int v1] : List Value).toArray below meth c H locs 0 0 Q (F0 m 136 ls [])) (n : Nat) (v5_L76 : Int32) (H : Heap) (locs : List Loc) (ls : Array Slot), f_X2_reading_L76 v2_L76 v3_L76 v4_L76 M_L76 k124 k136 n v5_L76 = some (r, M') → Wd D 20 ad (CM ad cy) A s.heap M_L76 H locs → lv_has ls 6 [(0, .ref (ad 0)), (2, .int v2_L76), (3, .int v3_L76), (4, .int v4_L76), (5, .int v5_L76)] → W p l e (rmD 1) s m ([.ref (ad 0), .int v1] : List Value).toArray below meth c H locs 0 0 Q (F0 m 76 ls []) := by
    intro v2_L76 v3_L76 v4_L76 M_L76 k124 hJ124 k136 hJ136 n
    induction n with
    | zero =>
      intro v5_L76 H locs ls hf
      cases (show (none : Option (Int32 × Mem)) = some (r, M') from hf)
    | succ n ih =>
      intro v5_L76 H locs ls hf hW hl
      rw [f_X2_reading_L76] at hf
      refine lv_iload hx hb dX2_reading_76 (lv_at hl 4 rfl) ?_
      refine lv_iconst (v := 3) hx hb dX2_reading_78 (by decide) ?_
      refine lv_icmp_ge (tgt := 136) hx hb dX2_reading_79 (by decide) (fun hc => ?_) (fun hc => ?_)
      · replace hf := ifp hc hf
        exact hJ136  H locs ls hf hW (lv_sub hl [0, 1, 2, 3] rfl)
      · replace hf := ifn hc hf
        refine lv_iload hx hb dX2_reading_82 (lv_at hl 3 rfl) ?_
        refine lv_iload hx hb dX2_reading_84 (lv_at hl 4 rfl) ?_
        refine lv_iadd hx hb dX2_reading_86 ?_
        refine lv_iload_n hx hb dX2_reading_87 rfl (lv_at hl 2 rfl) ?_
        refine lv_icmp_eq (tgt := 124) hx hb dX2_reading_88 (by decide) (fun hc => ?_) (fun hc => ?_)
        · replace hf := ifp hc hf
          exact hJ124 v4_L76 v5_L76 M_L76 H locs ls hf hW (lv_sub hl [3, 4] rfl)
        · replace hf := ifn hc hf
          refine lv_aload_n hx hb dX2_reading_91 rfl (lv_at hl 0 rfl) ?_
          refine gf_X2_19 X hW dX2_reading_92 ?_
          refine lv_iload_n hx hb dX2_reading_95 rfl (lv_at hl 1 rfl) ?_
          refine lv_iload hx hb dX2_reading_96 (lv_at hl 3 rfl) ?_
          refine lv_iadd hx hb dX2_reading_98 ?_
          refine lv_iload hx hb dX2_reading_99 (lv_at hl 4 rfl) ?_
          refine lv_iadd hx hb dX2_reading_101 ?_
          obtain ⟨hi102, hf⟩ := grd_some hf
          refine g_iald X hW iM_texts hi102 dX2_reading_102 ?_
          refine lv_iload hx hb dX2_reading_103 (lv_at hl 4 rfl) ?_
          refine lv_iconst (v := 1) hx hb dX2_reading_105 (by decide) ?_
          obtain ⟨k116, hk116, hf⟩ := jn_some1 hf
          have hJ116 : ∀ (t0_116j : Int32) (H : Heap) (locs : List Loc) (ls : Array Slot), k116 t0_116j = some (r, M') → Wd D 20 ad (CM ad cy) A s.heap M_L76 H locs → lv_has ls 6 [(0, .ref (ad 0)), (2, .int v2_L76), (3, .int v3_L76), (4, .int v4_L76), (5, .int v5_L76)] → W p l e (rmD 1) s m ([.ref (ad 0), .int v1] : List Value).toArray below meth c H locs 0 0 Q (F0 m 116 ls [.int t0_116j, .int (M_L76.1 4 (ix ((v2_L76 + v4_L76) + v5_L76)))]) := by
            intro t0_116j H locs ls hf hW hl
            rw [hk116] at hf
            refine lv_bipush (v := 57) hx hb dX2_reading_116 (by decide) ?_
            obtain ⟨r118, h118, hf⟩ := bR_some hf
            refine g_calliS X hl.1 hZ hA hW (c_X2_in l D cy ad h118) cs_X2_in ql_X2_82 rfl (by decide) rfl (Nat.le_of_ble_eq_true rfl) dX2_reading_118 (fun H locs hW => ?_)
            refine lv_if_ne (tgt := 130) hx hb dX2_reading_121 (by decide) (fun hc => ?_) (fun hc => ?_)
            · replace hf := ifn hc hf
              refine lv_iinc (v := (v5_L76 + 1)) (lv' := [(5, .int (v5_L76 + 1)), (0, .ref (ad 0)), (2, .int v2_L76), (3, .int v3_L76), (4, .int v4_L76)]) hx hb dX2_reading_130 hl (k := 4) rfl rfl (by decide) rfl (fun ls hl => ?_)
              refine lv_goto (tgt := 76) hx hb dX2_reading_133 (by decide) ?_
              exact ih (v5_L76 + 1) H locs ls hf hW (lv_sub hl [1, 2, 3, 4, 0] rfl)
            · replace hf := ifp hc hf
              exact hJ124 v4_L76 v5_L76 M_L76 H locs ls hf hW (lv_sub hl [3, 4] rfl)
          refine lv_icmp_ne (tgt := 114) hx hb dX2_reading_106 (by decide) (fun hc => ?_) (fun hc => ?_)
          · replace hf := ifn hc hf
            refine lv_bipush (v := 48) hx hb dX2_reading_114 (by decide) ?_
            exact hJ116 48 H locs ls hf hW (lv_sub hl [0, 1, 2, 3, 4] rfl)
          · replace hf := ifp hc hf
            refine lv_bipush (v := 50) hx hb dX2_reading_109 (by decide) ?_
            refine lv_goto (tgt := 116) hx hb dX2_reading_111 (by decide) ?_
            exact hJ116 50 H locs ls hf hW (lv_sub hl [0, 1, 2, 3, 4] rfl)
  have hL20 : ∀ (v2_L20 : Int32) (v3_L20 : Int32) (k124 : Int32 → Int32 → Mem → Option (Int32 × Mem)) (hJ124 : ∀ (v4_124x : Int32) (v5_124x : Int32) (M_124x : Mem) (H : Heap) (locs : List Loc) (ls : Array Slot), k124 v4_124x v5_124x M_124x = some (r, M') → Wd D 20 ad (CM ad cy) A s.heap M_124x H locs → lv_has ls 6 [(4, .int v4_124x), (5, .int v5_124x)] → W p l e (rmD 1) s m ([.ref (ad 0), .int v1] : List Value).toArray below meth c H locs 0 0 Q (F0 m 124 ls [])) (k219 : Mem → Option (Int32 × Mem)) (hJ219 : ∀  (M_219x : Mem) (H : Heap) (locs : List Loc) (ls : Array Slot), k219 M_219x = some (r, M') → Wd D 20 ad (CM ad cy) A s.heap M_219x H locs → lv_has ls 6 [(0, .ref (ad 0)), (3, .int v3_L20)] → W p l e (rmD 1) s m ([.ref (ad 0), .int v1] : List Value).toArray below meth c H locs 0 0 Q (F0 m 219 ls [])) (n : Nat) (v4_L20 : Int32) (M_L20 : Mem) (H : Heap) (locs : List Loc) (ls : Array Slot), f_X2_reading_L20 v2_L20 v3_L20 k124 k219 n v4_L20 M_L20 = some (r, M') → Wd D 20 ad (CM ad cy) A s.heap M_L20 H locs → lv_has ls 6 [(0, .ref (ad 0)), (2, .int v2_L20), (3, .int v3_L20), (4, .int v4_L20)] → W p l e (rmD 1) s m ([.ref (ad 0), .int v1] : List Value).toArray below meth c H locs 0 0 Q (F0 m 20 ls []) := by
    intro v2_L20 v3_L20 k124 hJ124 k219 hJ219 n
    induction n with
    | zero =>
      intro v4_L20 M_L20 H locs ls hf
      cases (show (none : Option (Int32 × Mem)) = some (r, M') from hf)
    | succ n ih =>
      intro v4_L20 M_L20 H locs ls hf hW hl
      rw [f_X2_reading_L20] at hf
      refine lv_iload hx hb dX2_reading_20 (lv_at hl 3 rfl) ?_
      refine lv_iload_n hx hb dX2_reading_22 rfl (lv_at hl 2 rfl) ?_
      refine lv_icmp_ge (tgt := 219) hx hb dX2_reading_23 (by decide) (fun hc => ?_) (fun hc => ?_)
      · replace hf := ifp hc hf
        exact hJ219 M_L20 H locs ls hf hW (lv_sub hl [0, 2] rfl)
      · replace hf := ifn hc hf
        refine lv_aload_n hx hb dX2_reading_26 rfl (lv_at hl 0 rfl) ?_
        refine gf_X2_19 X hW dX2_reading_27 ?_
        refine lv_iload_n hx hb dX2_reading_30 rfl (lv_at hl 1 rfl) ?_
        refine lv_iload hx hb dX2_reading_31 (lv_at hl 3 rfl) ?_
        refine lv_iadd hx hb dX2_reading_33 ?_
        obtain ⟨hi34, hf⟩ := grd_some hf
        refine g_iald X hW iM_texts hi34 dX2_reading_34 ?_
        refine lv_bipush (v := 32) hx hb dX2_reading_35 (by decide) ?_
        refine lv_icmp_ne (tgt := 46) hx hb dX2_reading_37 (by decide) (fun hc => ?_) (fun hc => ?_)
        · replace hf := ifn hc hf
          refine lv_aload_n hx hb dX2_reading_46 rfl (lv_at hl 0 rfl) ?_
          refine gf_X2_108 X hW dX2_reading_47 ?_
          refine lv_bipush (v := 7) hx hb dX2_reading_50 (by decide) ?_
          refine lv_icmp_eq (tgt := 70) hx hb dX2_reading_52 (by decide) (fun hc => ?_) (fun hc => ?_)
          · replace hf := ifp hc hf
            refine lv_iload hx hb dX2_reading_70 (lv_at hl 3 rfl) ?_
            exact g_iret X hr hlk hQ hW dX2_reading_72 hf
          · replace hf := ifn hc hf
            refine lv_aload_n hx hb dX2_reading_55 rfl (lv_at hl 0 rfl) ?_
            refine gf_X2_19 X hW dX2_reading_56 ?_
            refine lv_iload_n hx hb dX2_reading_59 rfl (lv_at hl 1 rfl) ?_
            refine lv_iload hx hb dX2_reading_60 (lv_at hl 3 rfl) ?_
            refine lv_iadd hx hb dX2_reading_62 ?_
            obtain ⟨hi63, hf⟩ := grd_some hf
            refine g_iald X hW iM_texts hi63 dX2_reading_63 ?_
            obtain ⟨r64, h64, hf⟩ := bR_some hf
            refine g_calliS X hl.1 hZ hA hW (c_X2_kindBy l D cy ad h64) cs_X2_kindBy ql_X2_111 rfl (by decide) rfl (Nat.le_of_ble_eq_true rfl) dX2_reading_64 (fun H locs hW => ?_)
            refine lv_if_ge (tgt := 73) hx hb dX2_reading_67 (by decide) (fun hc => ?_) (fun hc => ?_)
            · replace hf := ifp hc hf
              refine lv_iconst (v := 1) hx hb dX2_reading_73 (by decide) ?_
              refine lv_istore (lv' := [(5, .int 1), (0, .ref (ad 0)), (2, .int v2_L20), (3, .int v3_L20), (4, .int v4_L20)]) hx hb dX2_reading_74 hl (by decide) rfl (fun ls hl => ?_)
              obtain ⟨k136, hk136, hf⟩ := jn_some0 hf
              have hJ136 : ∀  (H : Heap) (locs : List Loc) (ls : Array Slot), k136 = some (r, M') → Wd D 20 ad (CM ad cy) A s.heap M_L20 H locs → lv_has ls 6 [(0, .ref (ad 0)), (2, .int v2_L20), (3, .int v3_L20), (4, .int v4_L20)] → W p l e (rmD 1) s m ([.ref (ad 0), .int v1] : List Value).toArray below meth c H locs 0 0 Q (F0 m 136 ls []) := by
                intro  H locs ls hf hW hl
                rw [hk136] at hf
                refine lv_aload_n hx hb dX2_reading_136 rfl (lv_at hl 0 rfl) ?_
                refine gf_X2_54 X hW dX2_reading_137 ?_
                refine lv_aload_n hx hb dX2_reading_140 rfl (lv_at hl 0 rfl) ?_
                refine gf_X2_108 X hW dX2_reading_141 ?_
                refine lv_aload_n hx hb dX2_reading_144 rfl (lv_at hl 0 rfl) ?_
                refine gf_X2_19 X hW dX2_reading_145 ?_
                refine lv_iload_n hx hb dX2_reading_148 rfl (lv_at hl 1 rfl) ?_
                refine lv_iload hx hb dX2_reading_149 (lv_at hl 3 rfl) ?_
                refine lv_iadd hx hb dX2_reading_151 ?_
                obtain ⟨hi152, hf⟩ := grd_some hf
                refine g_iald X hW iM_texts hi152 dX2_reading_152 ?_
                obtain ⟨r153, h153, hf⟩ := bR_some hf
                refine g_calliS X hl.1 hZ hA hW (c_X2_kindBy l D cy ad h153) cs_X2_kindBy ql_X2_111 rfl (by decide) rfl (Nat.le_of_ble_eq_true rfl) dX2_reading_153 (fun H locs hW => ?_)
                obtain ⟨hi156, hf⟩ := grd_some hf
                refine g_iast X hW iM_readKind hi156 dX2_reading_156 (fun H locs hW => ?_)
                obtain ⟨M156, e156, hf⟩ := lt_some hf
                have hW : Wd D 20 ad (CM ad cy) A s.heap M156 H locs := by rw [e156]; exact hW
                refine lv_aload_n hx hb dX2_reading_157 rfl (lv_at hl 0 rfl) ?_
                refine gf_X2_57 X hW dX2_reading_158 ?_
                refine lv_aload_n hx hb dX2_reading_161 rfl (lv_at hl 0 rfl) ?_
                refine gf_X2_108 X hW dX2_reading_162 ?_
                refine lv_aload_n hx hb dX2_reading_165 rfl (lv_at hl 0 rfl) ?_
                refine gf_X2_19 X hW dX2_reading_166 ?_
                refine lv_iload_n hx hb dX2_reading_169 rfl (lv_at hl 1 rfl) ?_
                refine lv_iload hx hb dX2_reading_170 (lv_at hl 3 rfl) ?_
                refine lv_iadd hx hb dX2_reading_172 ?_
                refine lv_iconst (v := 1) hx hb dX2_reading_173 (by decide) ?_
                refine lv_iadd hx hb dX2_reading_174 ?_
                obtain ⟨hi175, hf⟩ := grd_some hf
                refine g_iald X hW iM_texts hi175 dX2_reading_175 ?_
                refine lv_bipush (v := 48) hx hb dX2_reading_176 (by decide) ?_
                refine lv_isub hx hb dX2_reading_178 ?_
                obtain ⟨hi179, hf⟩ := grd_some hf
                refine g_iast X hW iM_readSize hi179 dX2_reading_179 (fun H locs hW => ?_)
                obtain ⟨M179, e179, hf⟩ := lt_some hf
                have hW : Wd D 20 ad (CM ad cy) A s.heap M179 H locs := by rw [e179]; exact hW
                refine lv_aload_n hx hb dX2_reading_180 rfl (lv_at hl 0 rfl) ?_
                refine gf_X2_60 X hW dX2_reading_181 ?_
                refine lv_aload_n hx hb dX2_reading_184 rfl (lv_at hl 0 rfl) ?_
                refine gf_X2_108 X hW dX2_reading_185 ?_
                refine lv_aload_n hx hb dX2_reading_188 rfl (lv_at hl 0 rfl) ?_
                refine gf_X2_19 X hW dX2_reading_189 ?_
                refine lv_iload_n hx hb dX2_reading_192 rfl (lv_at hl 1 rfl) ?_
                refine lv_iload hx hb dX2_reading_193 (lv_at hl 3 rfl) ?_
                refine lv_iadd hx hb dX2_reading_195 ?_
                refine lv_iconst (v := 2) hx hb dX2_reading_196 (by decide) ?_
                refine lv_iadd hx hb dX2_reading_197 ?_
                obtain ⟨hi198, hf⟩ := grd_some hf
                refine g_iald X hW iM_texts hi198 dX2_reading_198 ?_
                refine lv_bipush (v := 48) hx hb dX2_reading_199 (by decide) ?_
                refine lv_isub hx hb dX2_reading_201 ?_
                obtain ⟨hi202, hf⟩ := grd_some hf
                refine g_iast X hW iM_readMark hi202 dX2_reading_202 (fun H locs hW => ?_)
                obtain ⟨M202, e202, hf⟩ := lt_some hf
                have hW : Wd D 20 ad (CM ad cy) A s.heap M202 H locs := by rw [e202]; exact hW
                refine lv_aload_n hx hb dX2_reading_203 rfl (lv_at hl 0 rfl) ?_
                refine lv_dup hx hb dX2_reading_204 rfl ?_
                refine gf_X2_108 X hW dX2_reading_205 ?_
                refine lv_iconst (v := 1) hx hb dX2_reading_208 (by decide) ?_
                refine lv_iadd hx hb dX2_reading_209 ?_
                refine gp_X2_108 X hW dX2_reading_210 (fun H locs hW => ?_)
                obtain ⟨M210, e210, hf⟩ := lt_some hf
                have hW : Wd D 20 ad (CM ad cy) A s.heap M210 H locs := by rw [e210]; exact hW
                refine lv_iinc (v := (v4_L20 + 3)) (lv' := [(4, .int (v4_L20 + 3)), (0, .ref (ad 0)), (2, .int v2_L20), (3, .int v3_L20)]) hx hb dX2_reading_213 hl (k := 3) rfl rfl (by decide) rfl (fun ls hl => ?_)
                refine lv_goto (tgt := 20) hx hb dX2_reading_216 (by decide) ?_
                exact ih (v4_L20 + 3) M210 H locs ls hf hW (lv_sub hl [1, 2, 3, 0] rfl)
              exact hL76 v2_L20 v3_L20 v4_L20 M_L20 k124 hJ124 k136 hJ136 FU 1 H locs ls hf hW (lv_sub hl [1, 2, 3, 4, 0] rfl)
            · replace hf := ifn hc hf
              refine lv_iload hx hb dX2_reading_70 (lv_at hl 3 rfl) ?_
              exact g_iret X hr hlk hQ hW dX2_reading_72 hf
        · replace hf := ifp hc hf
          refine lv_iinc (v := (v4_L20 + 1)) (lv' := [(4, .int (v4_L20 + 1)), (0, .ref (ad 0)), (2, .int v2_L20), (3, .int v3_L20)]) hx hb dX2_reading_40 hl (k := 3) rfl rfl (by decide) rfl (fun ls hl => ?_)
          refine lv_goto (tgt := 20) hx hb dX2_reading_43 (by decide) ?_
          exact ih (v4_L20 + 1) M_L20 H locs ls hf hW (lv_sub hl [1, 2, 3, 0] rfl)
  obtain ⟨H, hH⟩ : ∃ H, H = s.heap := ⟨_, rfl⟩
  obtain ⟨locs, hlo⟩ : ∃ q : List Loc, q = [] := ⟨_, rfl⟩
  have hW : Wd D 20 ad (CM ad cy) A s.heap M H locs := by rw [hH, hlo]; exact hW
  suffices hh : W p l e (rmD 1) s m ([.ref (ad 0), .int v1] : List Value).toArray below meth c H locs 0 0 Q (F0 m 0 ls []) by rw [hH, hlo] at hh; exact hh
  unfold f_X2_reading at hf
  refine lv_bipush (v := 60) hx hb dX2_reading_0 (by decide) ?_
  refine lv_iload_n hx hb dX2_reading_2 rfl (lv_at hl 1 rfl) ?_
  refine lv_imul hx hb dX2_reading_3 ?_
  refine lv_istore_n (lv' := [(2, .int (60 * v1)), (0, .ref (ad 0)), (1, .int v1)]) hx hb dX2_reading_4 rfl hl (by decide) rfl (fun ls hl => ?_)
  refine lv_aload_n hx hb dX2_reading_5 rfl (lv_at hl 1 rfl) ?_
  refine gf_X2_16 X hW dX2_reading_6 ?_
  refine lv_iload_n hx hb dX2_reading_9 rfl (lv_at hl 2 rfl) ?_
  obtain ⟨hi10, hf⟩ := grd_some hf
  refine g_iald X hW iM_textSize hi10 dX2_reading_10 ?_
  refine lv_istore_n (lv' := [(3, .int (M.1 3 (ix v1))), (2, .int (60 * v1)), (0, .ref (ad 0)), (1, .int v1)]) hx hb dX2_reading_11 rfl hl (by decide) rfl (fun ls hl => ?_)
  refine lv_iconst (v := 0) hx hb dX2_reading_12 (by decide) ?_
  refine lv_istore (lv' := [(4, .int 0), (3, .int (M.1 3 (ix v1))), (2, .int (60 * v1)), (0, .ref (ad 0)), (1, .int v1)]) hx hb dX2_reading_13 hl (by decide) rfl (fun ls hl => ?_)
  refine lv_aload_n hx hb dX2_reading_15 rfl (lv_at hl 3 rfl) ?_
  refine lv_iconst (v := 0) hx hb dX2_reading_16 (by decide) ?_
  refine gp_X2_108 X hW dX2_reading_17 (fun H locs hW => ?_)
  obtain ⟨M17, e17, hf⟩ := lt_some hf
  have hW : Wd D 20 ad (CM ad cy) A s.heap M17 H locs := by rw [e17]; exact hW
  obtain ⟨k219, hk219, hf⟩ := jn_some1 hf
  have hJ219 : ∀  (M_219x : Mem) (H : Heap) (locs : List Loc) (ls : Array Slot), k219 M_219x = some (r, M') → Wd D 20 ad (CM ad cy) A s.heap M_219x H locs → lv_has ls 6 [(0, .ref (ad 0)), (3, .int (M.1 3 (ix v1)))] → W p l e (rmD 1) s m ([.ref (ad 0), .int v1] : List Value).toArray below meth c H locs 0 0 Q (F0 m 219 ls []) := by
    intro M_219x H locs ls hf hW hl
    rw [hk219] at hf
    refine lv_aload_n hx hb dX2_reading_219 rfl (lv_at hl 0 rfl) ?_
    refine gf_X2_108 X hW dX2_reading_220 ?_
    refine lv_iconst (v := 2) hx hb dX2_reading_223 (by decide) ?_
    refine lv_icmp_ge (tgt := 231) hx hb dX2_reading_224 (by decide) (fun hc => ?_) (fun hc => ?_)
    · replace hf := ifp hc hf
      refine lv_bipush (v := (-9)) hx hb dX2_reading_231 (by decide) ?_
      exact g_iret X hr hlk hQ hW dX2_reading_233 hf
    · replace hf := ifn hc hf
      refine lv_iload_n hx hb dX2_reading_227 rfl (lv_at hl 1 rfl) ?_
      refine lv_goto (tgt := 233) hx hb dX2_reading_228 (by decide) ?_
      exact g_iret X hr hlk hQ hW dX2_reading_233 hf
  obtain ⟨k124, hk124, hf⟩ := jn_some3 hf
  have hJ124 : ∀ (v4_124x : Int32) (v5_124x : Int32) (M_124x : Mem) (H : Heap) (locs : List Loc) (ls : Array Slot), k124 v4_124x v5_124x M_124x = some (r, M') → Wd D 20 ad (CM ad cy) A s.heap M_124x H locs → lv_has ls 6 [(4, .int v4_124x), (5, .int v5_124x)] → W p l e (rmD 1) s m ([.ref (ad 0), .int v1] : List Value).toArray below meth c H locs 0 0 Q (F0 m 124 ls []) := by
    intro v4_124x v5_124x M_124x H locs ls hf hW hl
    rw [hk124] at hf
    refine lv_iload hx hb dX2_reading_124 (lv_at hl 0 rfl) ?_
    refine lv_iload hx hb dX2_reading_126 (lv_at hl 1 rfl) ?_
    refine lv_iadd hx hb dX2_reading_128 ?_
    exact g_iret X hr hlk hQ hW dX2_reading_129 hf
  exact hL20 (60 * v1) (M.1 3 (ix v1)) k124 hJ124 k219 hJ219 FU 0 M17 H locs ls hf hW (lv_sub hl [3, 2, 1, 0] rfl)

def f_X2_fault (v1 : Int32) (M : Mem) : Option (Int32 × Mem) :=
  (bR (f_X2_isText v1 M) (fun r1 => (if r1 = 0 then (some ((-1), M)) else (grd (inb v1 4) (if 0 ≤ (M.1 3 (ix v1)) then (bI (f_X2_reading v1 M) (fun r28 M28 => (some (r28, M28)))) else (bI (f_X2_found 1 M) (fun r20 M20 => (some (r20, M20)))))))))
set_option maxHeartbeats 4000000 in
set_option maxRecDepth 100000 in
theorem c_X2_fault (l : Launch) (D : va_G) (cy : Nat → ClassId) (ad : Nat → Nat)   {v1 : Int32} {M M' : Mem} {r : Int32} (hf : f_X2_fault v1 M = some (r, M')) : MetX l 20 (CM ad cy) D cy ad yX2_fault cX2_fault 2 (some .int) 2 [.ref (ad 0), .int v1] M (fun A => QI r M' 20 (CM ad cy) D cy ad A) := by
  refine MetX.of (own := RX2) (by decide) rfl (Nat.le_of_ble_eq_true rfl) ?_
  intro p e s m below meth c A Q ls X hr hlk hZ hA hQ hW hl
  have hl : lv_has ls 2 [(0, .ref (ad 0)), (1, .int v1)] := hl
  have hx := X.1
  have hb := X.2.1
  obtain ⟨H, hH⟩ : ∃ H, H = s.heap := ⟨_, rfl⟩
  obtain ⟨locs, hlo⟩ : ∃ q : List Loc, q = [] := ⟨_, rfl⟩
  have hW : Wd D 20 ad (CM ad cy) A s.heap M H locs := by rw [hH, hlo]; exact hW
  suffices hh : W p l e (rmD 2) s m ([.ref (ad 0), .int v1] : List Value).toArray below meth c H locs 0 0 Q (F0 m 0 ls []) by rw [hH, hlo] at hh; exact hh
  unfold f_X2_fault at hf
  refine lv_iload_n hx hb dX2_fault_0 rfl (lv_at hl 1 rfl) ?_
  obtain ⟨r1, h1, hf⟩ := bR_some hf
  refine g_calliS X hl.1 hZ hA hW (c_X2_isText l D cy ad h1) cs_X2_isText ql_X2_105 rfl (by decide) rfl (Nat.le_of_ble_eq_true rfl) dX2_fault_1 (fun H locs hW => ?_)
  refine lv_if_ne (tgt := 9) hx hb dX2_fault_4 (by decide) (fun hc => ?_) (fun hc => ?_)
  · replace hf := ifn hc hf
    refine lv_aload_n hx hb dX2_fault_9 rfl (lv_at hl 0 rfl) ?_
    refine gf_X2_16 X hW dX2_fault_10 ?_
    refine lv_iload_n hx hb dX2_fault_13 rfl (lv_at hl 1 rfl) ?_
    obtain ⟨hi14, hf⟩ := grd_some hf
    refine g_iald X hW iM_textSize hi14 dX2_fault_14 ?_
    refine lv_if_ge (tgt := 26) hx hb dX2_fault_15 (by decide) (fun hc => ?_) (fun hc => ?_)
    · replace hf := ifp hc hf
      refine lv_aload_n hx hb dX2_fault_26 rfl (lv_at hl 0 rfl) ?_
      refine lv_iload_n hx hb dX2_fault_27 rfl (lv_at hl 1 rfl) ?_
      obtain ⟨r28, M28, h28, hf⟩ := bI_some hf
      refine g_calliV X hl.1 hZ hA hW (c_X2_reading l D cy ad h28) cw_X2_reading ql_X2_114 iO_X2 rfl (by decide) rfl (Nat.le_of_ble_eq_true rfl) dX2_fault_28 (fun H locs hW => ?_)
      exact g_iret X hr hlk hQ hW dX2_fault_31 hf
    · replace hf := ifn hc hf
      refine lv_aload_n hx hb dX2_fault_18 rfl (lv_at hl 0 rfl) ?_
      refine lv_iconst (v := 1) hx hb dX2_fault_19 (by decide) ?_
      obtain ⟨r20, M20, h20, hf⟩ := bI_some hf
      refine g_calliV X hl.1 hZ hA hW (c_X2_found l D cy ad h20) cw_X2_found ql_X2_90 iO_X2 rfl (by decide) rfl (Nat.le_of_ble_eq_true rfl) dX2_fault_20 (fun H locs hW => ?_)
      refine lv_goto (tgt := 31) hx hb dX2_fault_23 (by decide) ?_
      exact g_iret X hr hlk hQ hW dX2_fault_31 hf
  · replace hf := ifp hc hf
    refine lv_iconst (v := (-1)) hx hb dX2_fault_7 (by decide) ?_
    exact g_iret X hr hlk hQ hW dX2_fault_8 hf

def f_X2_store_L131 (k149 : Mem → Option (Int32 × Mem)) : Nat → Int32 → Mem → Option (Int32 × Mem)
  | 0, _, _ => none
  | n + 1, v2_L131, M_L131 => (if 3 ≤ v2_L131 then (k149 M_L131) else (grd (inb v2_L131 3) (lt (sI M_L131 12 (ix v2_L131) (vp_nar .boolean 0)) (fun M142 => (f_X2_store_L131 k149 n (v2_L131 + 1) M142)))))
def f_X2_store_L92 (k124 : Mem → Option (Int32 × Mem)) : Nat → Int32 → Mem → Option (Int32 × Mem)
  | 0, _, _ => none
  | n + 1, v2_L92, M_L92 => (if 15 ≤ v2_L92 then (k124 M_L92) else (jn (fun (k117 : Int32 → Option (Int32 × Mem)) => (if 8 ≤ v2_L92 then (k117 (v2_L92 - 8)) else (k117 0))) (fun (t0_117j : Int32) => (grd (inb v2_L92 15) (lt (sI M_L92 8 (ix v2_L92) t0_117j) (fun M117 => (f_X2_store_L92 k124 n (v2_L92 + 1) M117)))))))
def f_X2_store (v1 : Int32) (M : Mem) : Option (Int32 × Mem) :=
  (bR (f_X2_isText v1 M) (fun r1 => (if r1 = 0 then (some ((-1), M)) else (grd (inb v1 4) (if 0 ≤ (M.1 3 (ix v1)) then (bI (f_X2_reading v1 M) (fun r26 M26 => (if r26 = (-9) then (lt (sI M26 0 4 (M26.1 0 19)) (fun M42 => (bR (f_X2_bring 14 7 5 7 0 0 7 M42) (fun M57 => (bR (f_X2_bring 15 7 6 7 0 0 7 M57) (fun M72 => (bR (f_X2_bring 16 7 7 7 0 0 7 M72) (fun M87 => (jn (fun (k124 : Mem → Option (Int32 × Mem)) => (f_X2_store_L92 k124 FU 0 M87)) (fun  (M_124x : Mem) => (lt (sI M_124x 0 11 0) (fun M126 => (jn (fun (k149 : Mem → Option (Int32 × Mem)) => (f_X2_store_L131 k149 FU 0 M126)) (fun  (M_149x : Mem) => (some ((M_149x.1 0 4), M_149x)))))))))))))))) else (some ((-4), M26))))) else (bI (f_X2_found 1 M) (fun r20 M20 => (some (r20, M20)))))))))
set_option maxHeartbeats 4000000 in
set_option maxRecDepth 100000 in
theorem c_X2_store (l : Launch) (D : va_G) (cy : Nat → ClassId) (ad : Nat → Nat)   {v1 : Int32} {M M' : Mem} {r : Int32} (hf : f_X2_store v1 M = some (r, M')) : MetX l 20 (CM ad cy) D cy ad yX2_store cX2_store 3 (some .int) 2 [.ref (ad 0), .int v1] M (fun A => QI r M' 20 (CM ad cy) D cy ad A) := by
  refine MetX.of (own := RX2) (by decide) rfl (Nat.le_of_ble_eq_true rfl) ?_
  intro p e s m below meth c A Q ls X hr hlk hZ hA hQ hW hl
  have hl : lv_has ls 3 [(0, .ref (ad 0)), (1, .int v1)] := hl
  have hx := X.1
  have hb := X.2.1
  have hL131 : ∀  (k149 : Mem → Option (Int32 × Mem)) (hJ149 : ∀  (M_149x : Mem) (H : Heap) (locs : List Loc) (ls : Array Slot), k149 M_149x = some (r, M') → Wd D 20 ad (CM ad cy) A s.heap M_149x H locs → lv_has ls 3 [(0, .ref (ad 0))] → W p l e (rmD 2) s m ([.ref (ad 0), .int v1] : List Value).toArray below meth c H locs 0 0 Q (F0 m 149 ls [])) (n : Nat) (v2_L131 : Int32) (M_L131 : Mem) (H : Heap) (locs : List Loc) (ls : Array Slot), f_X2_store_L131 k149 n v2_L131 M_L131 = some (r, M') → Wd D 20 ad (CM ad cy) A s.heap M_L131 H locs → lv_has ls 3 [(0, .ref (ad 0)), (2, .int v2_L131)] → W p l e (rmD 2) s m ([.ref (ad 0), .int v1] : List Value).toArray below meth c H locs 0 0 Q (F0 m 131 ls []) := by
    intro k149 hJ149 n
    induction n with
    | zero =>
      intro v2_L131 M_L131 H locs ls hf
      cases (show (none : Option (Int32 × Mem)) = some (r, M') from hf)
    | succ n ih =>
      intro v2_L131 M_L131 H locs ls hf hW hl
      rw [f_X2_store_L131] at hf
      refine lv_iload_n hx hb dX2_store_131 rfl (lv_at hl 1 rfl) ?_
      refine lv_iconst (v := 3) hx hb dX2_store_132 (by decide) ?_
      refine lv_icmp_ge (tgt := 149) hx hb dX2_store_133 (by decide) (fun hc => ?_) (fun hc => ?_)
      · replace hf := ifp hc hf
        exact hJ149 M_L131 H locs ls hf hW (lv_sub hl [0] rfl)
      · replace hf := ifn hc hf
        refine lv_aload_n hx hb dX2_store_136 rfl (lv_at hl 0 rfl) ?_
        refine gf_X2_43 X hW dX2_store_137 ?_
        refine lv_iload_n hx hb dX2_store_140 rfl (lv_at hl 1 rfl) ?_
        refine lv_iconst (v := 0) hx hb dX2_store_141 (by decide) ?_
        obtain ⟨hi142, hf⟩ := grd_some hf
        refine g_zast X hW iM_isKept hi142 dX2_store_142 (fun H locs hW => ?_)
        obtain ⟨M142, e142, hf⟩ := lt_some hf
        have hW : Wd D 20 ad (CM ad cy) A s.heap M142 H locs := by rw [e142]; exact hW
        refine lv_iinc (v := (v2_L131 + 1)) (lv' := [(2, .int (v2_L131 + 1)), (0, .ref (ad 0))]) hx hb dX2_store_143 hl (k := 1) rfl rfl (by decide) rfl (fun ls hl => ?_)
        refine lv_goto (tgt := 131) hx hb dX2_store_146 (by decide) ?_
        exact ih (v2_L131 + 1) M142 H locs ls hf hW (lv_sub hl [1, 0] rfl)
  have hL92 : ∀  (k124 : Mem → Option (Int32 × Mem)) (hJ124 : ∀  (M_124x : Mem) (H : Heap) (locs : List Loc) (ls : Array Slot), k124 M_124x = some (r, M') → Wd D 20 ad (CM ad cy) A s.heap M_124x H locs → lv_has ls 3 [(0, .ref (ad 0))] → W p l e (rmD 2) s m ([.ref (ad 0), .int v1] : List Value).toArray below meth c H locs 0 0 Q (F0 m 124 ls [])) (n : Nat) (v2_L92 : Int32) (M_L92 : Mem) (H : Heap) (locs : List Loc) (ls : Array Slot), f_X2_store_L92 k124 n v2_L92 M_L92 = some (r, M') → Wd D 20 ad (CM ad cy) A s.heap M_L92 H locs → lv_has ls 3 [(0, .ref (ad 0)), (2, .int v2_L92)] → W p l e (rmD 2) s m ([.ref (ad 0), .int v1] : List Value).toArray below meth c H locs 0 0 Q (F0 m 92 ls []) := by
    intro k124 hJ124 n
    induction n with
    | zero =>
      intro v2_L92 M_L92 H locs ls hf
      cases (show (none : Option (Int32 × Mem)) = some (r, M') from hf)
    | succ n ih =>
      intro v2_L92 M_L92 H locs ls hf hW hl
      rw [f_X2_store_L92] at hf
      refine lv_iload_n hx hb dX2_store_92 rfl (lv_at hl 1 rfl) ?_
      refine lv_bipush (v := 15) hx hb dX2_store_93 (by decide) ?_
      refine lv_icmp_ge (tgt := 124) hx hb dX2_store_95 (by decide) (fun hc => ?_) (fun hc => ?_)
      · replace hf := ifp hc hf
        exact hJ124 M_L92 H locs ls hf hW (lv_sub hl [0] rfl)
      · replace hf := ifn hc hf
        refine lv_aload_n hx hb dX2_store_98 rfl (lv_at hl 0 rfl) ?_
        refine gf_X2_31 X hW dX2_store_99 ?_
        refine lv_iload_n hx hb dX2_store_102 rfl (lv_at hl 1 rfl) ?_
        refine lv_iload_n hx hb dX2_store_103 rfl (lv_at hl 1 rfl) ?_
        refine lv_bipush (v := 8) hx hb dX2_store_104 (by decide) ?_
        obtain ⟨k117, hk117, hf⟩ := jn_some1 hf
        have hJ117 : ∀ (t0_117j : Int32) (H : Heap) (locs : List Loc) (ls : Array Slot), k117 t0_117j = some (r, M') → Wd D 20 ad (CM ad cy) A s.heap M_L92 H locs → lv_has ls 3 [(0, .ref (ad 0)), (2, .int v2_L92)] → W p l e (rmD 2) s m ([.ref (ad 0), .int v1] : List Value).toArray below meth c H locs 0 0 Q (F0 m 117 ls [.int t0_117j, .int v2_L92, .ref (ad 8)]) := by
          intro t0_117j H locs ls hf hW hl
          rw [hk117] at hf
          obtain ⟨hi117, hf⟩ := grd_some hf
          refine g_iast X hW iM_st hi117 dX2_store_117 (fun H locs hW => ?_)
          obtain ⟨M117, e117, hf⟩ := lt_some hf
          have hW : Wd D 20 ad (CM ad cy) A s.heap M117 H locs := by rw [e117]; exact hW
          refine lv_iinc (v := (v2_L92 + 1)) (lv' := [(2, .int (v2_L92 + 1)), (0, .ref (ad 0))]) hx hb dX2_store_118 hl (k := 1) rfl rfl (by decide) rfl (fun ls hl => ?_)
          refine lv_goto (tgt := 92) hx hb dX2_store_121 (by decide) ?_
          exact ih (v2_L92 + 1) M117 H locs ls hf hW (lv_sub hl [1, 0] rfl)
        refine lv_icmp_ge (tgt := 113) hx hb dX2_store_106 (by decide) (fun hc => ?_) (fun hc => ?_)
        · replace hf := ifp hc hf
          refine lv_iload_n hx hb dX2_store_113 rfl (lv_at hl 1 rfl) ?_
          refine lv_bipush (v := 8) hx hb dX2_store_114 (by decide) ?_
          refine lv_isub hx hb dX2_store_116 ?_
          exact hJ117 (v2_L92 - 8) H locs ls hf hW (lv_sub hl [0, 1] rfl)
        · replace hf := ifn hc hf
          refine lv_iconst (v := 0) hx hb dX2_store_109 (by decide) ?_
          refine lv_goto (tgt := 117) hx hb dX2_store_110 (by decide) ?_
          exact hJ117 0 H locs ls hf hW (lv_sub hl [0, 1] rfl)
  obtain ⟨H, hH⟩ : ∃ H, H = s.heap := ⟨_, rfl⟩
  obtain ⟨locs, hlo⟩ : ∃ q : List Loc, q = [] := ⟨_, rfl⟩
  have hW : Wd D 20 ad (CM ad cy) A s.heap M H locs := by rw [hH, hlo]; exact hW
  suffices hh : W p l e (rmD 2) s m ([.ref (ad 0), .int v1] : List Value).toArray below meth c H locs 0 0 Q (F0 m 0 ls []) by rw [hH, hlo] at hh; exact hh
  unfold f_X2_store at hf
  refine lv_iload_n hx hb dX2_store_0 rfl (lv_at hl 1 rfl) ?_
  obtain ⟨r1, h1, hf⟩ := bR_some hf
  refine g_calliS X hl.1 hZ hA hW (c_X2_isText l D cy ad h1) cs_X2_isText ql_X2_105 rfl (by decide) rfl (Nat.le_of_ble_eq_true rfl) dX2_store_1 (fun H locs hW => ?_)
  refine lv_if_ne (tgt := 9) hx hb dX2_store_4 (by decide) (fun hc => ?_) (fun hc => ?_)
  · replace hf := ifn hc hf
    refine lv_aload_n hx hb dX2_store_9 rfl (lv_at hl 0 rfl) ?_
    refine gf_X2_16 X hW dX2_store_10 ?_
    refine lv_iload_n hx hb dX2_store_13 rfl (lv_at hl 1 rfl) ?_
    obtain ⟨hi14, hf⟩ := grd_some hf
    refine g_iald X hW iM_textSize hi14 dX2_store_14 ?_
    refine lv_if_ge (tgt := 24) hx hb dX2_store_15 (by decide) (fun hc => ?_) (fun hc => ?_)
    · replace hf := ifp hc hf
      refine lv_aload_n hx hb dX2_store_24 rfl (lv_at hl 0 rfl) ?_
      refine lv_iload_n hx hb dX2_store_25 rfl (lv_at hl 1 rfl) ?_
      obtain ⟨r26, M26, h26, hf⟩ := bI_some hf
      refine g_calliV X hl.1 hZ hA hW (c_X2_reading l D cy ad h26) cw_X2_reading ql_X2_114 iO_X2 rfl (by decide) rfl (Nat.le_of_ble_eq_true rfl) dX2_store_26 (fun H locs hW => ?_)
      refine lv_bipush (v := (-9)) hx hb dX2_store_29 (by decide) ?_
      refine lv_icmp_eq (tgt := 37) hx hb dX2_store_31 (by decide) (fun hc => ?_) (fun hc => ?_)
      · replace hf := ifp hc hf
        refine lv_aload_n hx hb dX2_store_37 rfl (lv_at hl 0 rfl) ?_
        refine lv_aload_n hx hb dX2_store_38 rfl (lv_at hl 0 rfl) ?_
        refine gf_X2_108 X hW dX2_store_39 ?_
        refine gp_X2_79 X hW dX2_store_42 (fun H locs hW => ?_)
        obtain ⟨M42, e42, hf⟩ := lt_some hf
        have hW : Wd D 20 ad (CM ad cy) A s.heap M42 H locs := by rw [e42]; exact hW
        refine lv_aload_n hx hb dX2_store_45 rfl (lv_at hl 0 rfl) ?_
        refine gf_X2_54 X hW dX2_store_46 ?_
        refine lv_iconst (v := 0) hx hb dX2_store_49 (by decide) ?_
        refine lv_aload_n hx hb dX2_store_50 rfl (lv_at hl 0 rfl) ?_
        refine gf_X2_22 X hW dX2_store_51 ?_
        refine lv_iconst (v := 0) hx hb dX2_store_54 (by decide) ?_
        refine lv_bipush (v := 7) hx hb dX2_store_55 (by decide) ?_
        obtain ⟨M57, h57, hf⟩ := bR_some hf
        refine g_callvS X hl.1 hZ hA hW (c_X2_bring l D cy ad iM_readKind iM_kind h57) cs_X2_bring ql_X2_117 rfl (by decide) rfl (Nat.le_of_ble_eq_true rfl) dX2_store_57 (fun H locs hW => ?_)
        refine lv_aload_n hx hb dX2_store_60 rfl (lv_at hl 0 rfl) ?_
        refine gf_X2_57 X hW dX2_store_61 ?_
        refine lv_iconst (v := 0) hx hb dX2_store_64 (by decide) ?_
        refine lv_aload_n hx hb dX2_store_65 rfl (lv_at hl 0 rfl) ?_
        refine gf_X2_25 X hW dX2_store_66 ?_
        refine lv_iconst (v := 0) hx hb dX2_store_69 (by decide) ?_
        refine lv_bipush (v := 7) hx hb dX2_store_70 (by decide) ?_
        obtain ⟨M72, h72, hf⟩ := bR_some hf
        refine g_callvS X hl.1 hZ hA hW (c_X2_bring l D cy ad iM_readSize iM_size h72) cs_X2_bring ql_X2_117 rfl (by decide) rfl (Nat.le_of_ble_eq_true rfl) dX2_store_72 (fun H locs hW => ?_)
        refine lv_aload_n hx hb dX2_store_75 rfl (lv_at hl 0 rfl) ?_
        refine gf_X2_60 X hW dX2_store_76 ?_
        refine lv_iconst (v := 0) hx hb dX2_store_79 (by decide) ?_
        refine lv_aload_n hx hb dX2_store_80 rfl (lv_at hl 0 rfl) ?_
        refine gf_X2_28 X hW dX2_store_81 ?_
        refine lv_iconst (v := 0) hx hb dX2_store_84 (by decide) ?_
        refine lv_bipush (v := 7) hx hb dX2_store_85 (by decide) ?_
        obtain ⟨M87, h87, hf⟩ := bR_some hf
        refine g_callvS X hl.1 hZ hA hW (c_X2_bring l D cy ad iM_readMark iM_mark h87) cs_X2_bring ql_X2_117 rfl (by decide) rfl (Nat.le_of_ble_eq_true rfl) dX2_store_87 (fun H locs hW => ?_)
        refine lv_iconst (v := 0) hx hb dX2_store_90 (by decide) ?_
        refine lv_istore_n (lv' := [(2, .int 0), (0, .ref (ad 0)), (1, .int v1)]) hx hb dX2_store_91 rfl hl (by decide) rfl (fun ls hl => ?_)
        obtain ⟨k124, hk124, hf⟩ := jn_some1 hf
        have hJ124 : ∀  (M_124x : Mem) (H : Heap) (locs : List Loc) (ls : Array Slot), k124 M_124x = some (r, M') → Wd D 20 ad (CM ad cy) A s.heap M_124x H locs → lv_has ls 3 [(0, .ref (ad 0))] → W p l e (rmD 2) s m ([.ref (ad 0), .int v1] : List Value).toArray below meth c H locs 0 0 Q (F0 m 124 ls []) := by
          intro M_124x H locs ls hf hW hl
          rw [hk124] at hf
          refine lv_aload_n hx hb dX2_store_124 rfl (lv_at hl 0 rfl) ?_
          refine lv_iconst (v := 0) hx hb dX2_store_125 (by decide) ?_
          refine gp_X2_121 X hW dX2_store_126 (fun H locs hW => ?_)
          obtain ⟨M126, e126, hf⟩ := lt_some hf
          have hW : Wd D 20 ad (CM ad cy) A s.heap M126 H locs := by rw [e126]; exact hW
          refine lv_iconst (v := 0) hx hb dX2_store_129 (by decide) ?_
          refine lv_istore_n (lv' := [(2, .int 0), (0, .ref (ad 0))]) hx hb dX2_store_130 rfl hl (by decide) rfl (fun ls hl => ?_)
          obtain ⟨k149, hk149, hf⟩ := jn_some1 hf
          have hJ149 : ∀  (M_149x : Mem) (H : Heap) (locs : List Loc) (ls : Array Slot), k149 M_149x = some (r, M') → Wd D 20 ad (CM ad cy) A s.heap M_149x H locs → lv_has ls 3 [(0, .ref (ad 0))] → W p l e (rmD 2) s m ([.ref (ad 0), .int v1] : List Value).toArray below meth c H locs 0 0 Q (F0 m 149 ls []) := by
            intro M_149x H locs ls hf hW hl
            rw [hk149] at hf
            refine lv_aload_n hx hb dX2_store_149 rfl (lv_at hl 0 rfl) ?_
            refine gf_X2_79 X hW dX2_store_150 ?_
            exact g_iret X hr hlk hQ hW dX2_store_153 hf
          exact hL131 k149 hJ149 FU 0 M126 H locs ls hf hW (lv_sub hl [1, 0] rfl)
        exact hL92 k124 hJ124 FU 0 M87 H locs ls hf hW (lv_sub hl [1, 0] rfl)
      · replace hf := ifn hc hf
        refine lv_bipush (v := (-4)) hx hb dX2_store_34 (by decide) ?_
        exact g_iret X hr hlk hQ hW dX2_store_36 hf
    · replace hf := ifn hc hf
      refine lv_aload_n hx hb dX2_store_18 rfl (lv_at hl 0 rfl) ?_
      refine lv_iconst (v := 1) hx hb dX2_store_19 (by decide) ?_
      obtain ⟨r20, M20, h20, hf⟩ := bI_some hf
      refine g_calliV X hl.1 hZ hA hW (c_X2_found l D cy ad h20) cw_X2_found ql_X2_90 iO_X2 rfl (by decide) rfl (Nat.le_of_ble_eq_true rfl) dX2_store_20 (fun H locs hW => ?_)
      exact g_iret X hr hlk hQ hW dX2_store_23 hf
  · replace hf := ifp hc hf
    refine lv_iconst (v := (-1)) hx hb dX2_store_7 (by decide) ?_
    exact g_iret X hr hlk hQ hW dX2_store_8 hf

def f_X2_isReady (k1 : Nat) (n1 : Nat) (v2 : Int32) (M : Mem) : Option Int32 :=
  (grd (inb v2 7) (if (M.1 5 (ix v2)) = 3 then (grd (inb 0 n1) (if (irm (M.1 k1 (ix 0)) 2) = 0 then (some 1) else (some 0))) else (some 1)))
set_option maxHeartbeats 4000000 in
set_option maxRecDepth 100000 in
theorem c_X2_isReady (l : Launch) (D : va_G) (cy : Nat → ClassId) (ad : Nat → Nat) {k1 : Nat} {n1 : Nat} (hA1 : isA (CM ad cy) 20 k1 (cy 0) n1) {v2 : Int32} {M : Mem} {r : Int32} (hf : f_X2_isReady k1 n1 v2 M = some r) : MetX l 20 (CM ad cy) D cy ad yX2_isReady cX2_isReady 3 (some .boolean) 0 [.ref (ad 0), .ref (ad k1), .int v2] M (fun A => QI r M 20 (CM ad cy) D cy ad A) := by
  refine MetX.of (own := RX2) (by decide) rfl (Nat.le_of_ble_eq_true rfl) ?_
  intro p e s m below meth c A Q ls X hr hlk hZ hA hQ hW hl
  have hl : lv_has ls 3 [(0, .ref (ad 0)), (1, .ref (ad k1)), (2, .int v2)] := hl
  have hx := X.1
  have hb := X.2.1
  obtain ⟨H, hH⟩ : ∃ H, H = s.heap := ⟨_, rfl⟩
  obtain ⟨locs, hlo⟩ : ∃ q : List Loc, q = [] := ⟨_, rfl⟩
  have hW : Wd D 20 ad (CM ad cy) A s.heap M H locs := by rw [hH, hlo]; exact hW
  suffices hh : W p l e (rmD 0) s m ([.ref (ad 0), .ref (ad k1), .int v2] : List Value).toArray below meth c H locs 0 0 Q (F0 m 0 ls []) by rw [hH, hlo] at hh; exact hh
  unfold f_X2_isReady at hf
  refine lv_aload_n hx hb dX2_isReady_0 rfl (lv_at hl 0 rfl) ?_
  refine gf_X2_22 X hW dX2_isReady_1 ?_
  refine lv_iload_n hx hb dX2_isReady_4 rfl (lv_at hl 2 rfl) ?_
  obtain ⟨hi5, hf⟩ := grd_some hf
  refine g_iald X hW iM_kind hi5 dX2_isReady_5 ?_
  refine lv_iconst (v := 3) hx hb dX2_isReady_6 (by decide) ?_
  refine lv_icmp_ne (tgt := 18) hx hb dX2_isReady_7 (by decide) (fun hc => ?_) (fun hc => ?_)
  · replace hf := ifn hc hf
    refine lv_iconst (v := 1) hx hb dX2_isReady_18 (by decide) ?_
    refine lv_goto (tgt := 23) hx hb dX2_isReady_19 (by decide) ?_
    exact g_zret X hr hlk hQ hW dX2_isReady_23 (by decide) (rd_some hf)
  · replace hf := ifp hc hf
    refine lv_aload_n hx hb dX2_isReady_10 rfl (lv_at hl 1 rfl) ?_
    refine lv_iconst (v := 0) hx hb dX2_isReady_11 (by decide) ?_
    obtain ⟨hi12, hf⟩ := grd_some hf
    refine g_iald X hW hA1 hi12 dX2_isReady_12 ?_
    refine lv_iconst (v := 2) hx hb dX2_isReady_13 (by decide) ?_
    refine r_irem hx hb dX2_isReady_14 (by decide) ?_
    refine lv_if_ne (tgt := 22) hx hb dX2_isReady_15 (by decide) (fun hc => ?_) (fun hc => ?_)
    · replace hf := ifn hc hf
      refine lv_iconst (v := 0) hx hb dX2_isReady_22 (by decide) ?_
      exact g_zret X hr hlk hQ hW dX2_isReady_23 (by decide) (rd_some hf)
    · replace hf := ifp hc hf
      refine lv_iconst (v := 1) hx hb dX2_isReady_18 (by decide) ?_
      refine lv_goto (tgt := 23) hx hb dX2_isReady_19 (by decide) ?_
      exact g_zret X hr hlk hQ hW dX2_isReady_23 (by decide) (rd_some hf)

def f_X2_isMarked (k1 : Nat) (n1 : Nat) (v2 : Int32) (M : Mem) : Option Int32 :=
  (grd (inb 0 n1) (grd (inb v2 7) (grd (nz ((M.1 7 (ix v2)) + 2)) (if (irm (M.1 k1 (ix 0)) ((M.1 7 (ix v2)) + 2)) = 0 then (some 1) else (some 0)))))
set_option maxHeartbeats 4000000 in
set_option maxRecDepth 100000 in
theorem c_X2_isMarked (l : Launch) (D : va_G) (cy : Nat → ClassId) (ad : Nat → Nat) {k1 : Nat} {n1 : Nat} (hA1 : isA (CM ad cy) 20 k1 (cy 0) n1) {v2 : Int32} {M : Mem} {r : Int32} (hf : f_X2_isMarked k1 n1 v2 M = some r) : MetX l 20 (CM ad cy) D cy ad yX2_isMarked cX2_isMarked 3 (some .boolean) 0 [.ref (ad 0), .ref (ad k1), .int v2] M (fun A => QI r M 20 (CM ad cy) D cy ad A) := by
  refine MetX.of (own := RX2) (by decide) rfl (Nat.le_of_ble_eq_true rfl) ?_
  intro p e s m below meth c A Q ls X hr hlk hZ hA hQ hW hl
  have hl : lv_has ls 3 [(0, .ref (ad 0)), (1, .ref (ad k1)), (2, .int v2)] := hl
  have hx := X.1
  have hb := X.2.1
  obtain ⟨H, hH⟩ : ∃ H, H = s.heap := ⟨_, rfl⟩
  obtain ⟨locs, hlo⟩ : ∃ q : List Loc, q = [] := ⟨_, rfl⟩
  have hW : Wd D 20 ad (CM ad cy) A s.heap M H locs := by rw [hH, hlo]; exact hW
  suffices hh : W p l e (rmD 0) s m ([.ref (ad 0), .ref (ad k1), .int v2] : List Value).toArray below meth c H locs 0 0 Q (F0 m 0 ls []) by rw [hH, hlo] at hh; exact hh
  unfold f_X2_isMarked at hf
  refine lv_aload_n hx hb dX2_isMarked_0 rfl (lv_at hl 1 rfl) ?_
  refine lv_iconst (v := 0) hx hb dX2_isMarked_1 (by decide) ?_
  obtain ⟨hi2, hf⟩ := grd_some hf
  refine g_iald X hW hA1 hi2 dX2_isMarked_2 ?_
  refine lv_aload_n hx hb dX2_isMarked_3 rfl (lv_at hl 0 rfl) ?_
  refine gf_X2_28 X hW dX2_isMarked_4 ?_
  refine lv_iload_n hx hb dX2_isMarked_7 rfl (lv_at hl 2 rfl) ?_
  obtain ⟨hi8, hf⟩ := grd_some hf
  refine g_iald X hW iM_mark hi8 dX2_isMarked_8 ?_
  refine lv_iconst (v := 2) hx hb dX2_isMarked_9 (by decide) ?_
  refine lv_iadd hx hb dX2_isMarked_10 ?_
  obtain ⟨hz11, hf⟩ := grd_some hf
  refine r_irem hx hb dX2_isMarked_11 (nz_ne hz11) ?_
  refine lv_if_ne (tgt := 19) hx hb dX2_isMarked_12 (by decide) (fun hc => ?_) (fun hc => ?_)
  · replace hf := ifn hc hf
    refine lv_iconst (v := 0) hx hb dX2_isMarked_19 (by decide) ?_
    exact g_zret X hr hlk hQ hW dX2_isMarked_20 (by decide) (rd_some hf)
  · replace hf := ifp hc hf
    refine lv_iconst (v := 1) hx hb dX2_isMarked_15 (by decide) ?_
    refine lv_goto (tgt := 20) hx hb dX2_isMarked_16 (by decide) ?_
    exact g_zret X hr hlk hQ hW dX2_isMarked_20 (by decide) (rd_some hf)

def f_X2_sentBy (k1 : Nat) (n1 : Nat) (v2 : Int32) (v3 : Int32) (v4 : Int32) (M : Mem) : Option Int32 :=
  (grd (inb (1 + v2) n1) (grd (inb v2 7) (bR (f_X2_isMarked k1 n1 v2 M) (fun r21 => (jn (fun (k37 : Option Int32) => (jn (fun (k39 : Int32 → Option Int32) => (if r21 = 0 then k37 else (if ((shr (M.1 k1 (ix (1 + v2))) ((M.1 6 (ix v2)) - 1)) &&& 1) = 1 then (k39 1) else k37))) (fun (t0_39j : Int32) => (if v3 = 1 then (bR (f_X2_isMarked k1 n1 v2 M) (fun r79 => (if r79 = 0 then (some v4) else (some 0)))) else (if v3 = 2 then (some t0_39j) else (if v3 = 3 then (some v4) else (if v3 = 4 then (bR (f_X2_isMarked k1 n1 v2 M) (fun r98 => (if r98 = 0 then (some v4) else (some (1 - v4))))) else (if v3 = 5 then (grd (inb 0 n1) (if (irm (M.1 k1 (ix 0)) 3) = 0 then (if ((shr (M.1 k1 (ix (1 + v2))) ((M.1 6 (ix v2)) - 1)) &&& 1) = 0 then (some 0) else (some t0_39j)) else (some t0_39j))) else (some v4))))))))) ((if v3 = 1 then (bR (f_X2_isMarked k1 n1 v2 M) (fun r79 => (if r79 = 0 then (some v4) else (some 0)))) else (if v3 = 2 then (some v4) else (if v3 = 3 then (some v4) else (if v3 = 4 then (bR (f_X2_isMarked k1 n1 v2 M) (fun r98 => (if r98 = 0 then (some v4) else (some (1 - v4))))) else (if v3 = 5 then (grd (inb 0 n1) (if (irm (M.1 k1 (ix 0)) 3) = 0 then (if ((shr (M.1 k1 (ix (1 + v2))) ((M.1 6 (ix v2)) - 1)) &&& 1) = 0 then (some 0) else (some v4)) else (some v4))) else (some v4))))))))))))
set_option maxHeartbeats 4000000 in
set_option maxRecDepth 100000 in
theorem c_X2_sentBy (l : Launch) (D : va_G) (cy : Nat → ClassId) (ad : Nat → Nat) {k1 : Nat} {n1 : Nat} (hA1 : isA (CM ad cy) 20 k1 (cy 0) n1) {v2 : Int32} {v3 : Int32} {v4 : Int32} {M : Mem} {r : Int32} (hf : f_X2_sentBy k1 n1 v2 v3 v4 M = some r) : MetX l 20 (CM ad cy) D cy ad yX2_sentBy cX2_sentBy 7 (some .int) 1 [.ref (ad 0), .ref (ad k1), .int v2, .int v3, .int v4] M (fun A => QI r M 20 (CM ad cy) D cy ad A) := by
  refine MetX.of (own := RX2) (by decide) rfl (Nat.le_of_ble_eq_true rfl) ?_
  intro p e s m below meth c A Q ls X hr hlk hZ hA hQ hW hl
  have hl : lv_has ls 7 [(0, .ref (ad 0)), (1, .ref (ad k1)), (2, .int v2), (3, .int v3), (4, .int v4)] := hl
  have hx := X.1
  have hb := X.2.1
  obtain ⟨H, hH⟩ : ∃ H, H = s.heap := ⟨_, rfl⟩
  obtain ⟨locs, hlo⟩ : ∃ q : List Loc, q = [] := ⟨_, rfl⟩
  have hW : Wd D 20 ad (CM ad cy) A s.heap M H locs := by rw [hH, hlo]; exact hW
  suffices hh : W p l e (rmD 1) s m ([.ref (ad 0), .ref (ad k1), .int v2, .int v3, .int v4] : List Value).toArray below meth c H locs 0 0 Q (F0 m 0 ls []) by rw [hH, hlo] at hh; exact hh
  unfold f_X2_sentBy at hf
  refine lv_aload_n hx hb dX2_sentBy_0 rfl (lv_at hl 1 rfl) ?_
  refine lv_iconst (v := 1) hx hb dX2_sentBy_1 (by decide) ?_
  refine lv_iload_n hx hb dX2_sentBy_2 rfl (lv_at hl 2 rfl) ?_
  refine lv_iadd hx hb dX2_sentBy_3 ?_
  obtain ⟨hi4, hf⟩ := grd_some hf
  refine g_iald X hW hA1 hi4 dX2_sentBy_4 ?_
  refine lv_aload_n hx hb dX2_sentBy_5 rfl (lv_at hl 0 rfl) ?_
  refine gf_X2_25 X hW dX2_sentBy_6 ?_
  refine lv_iload_n hx hb dX2_sentBy_9 rfl (lv_at hl 2 rfl) ?_
  obtain ⟨hi10, hf⟩ := grd_some hf
  refine g_iald X hW iM_size hi10 dX2_sentBy_10 ?_
  refine lv_iconst (v := 1) hx hb dX2_sentBy_11 (by decide) ?_
  refine lv_isub hx hb dX2_sentBy_12 ?_
  refine r_ishr hx hb dX2_sentBy_13 ?_
  refine lv_iconst (v := 1) hx hb dX2_sentBy_14 (by decide) ?_
  refine lv_iand hx hb dX2_sentBy_15 ?_
  refine lv_istore (lv' := [(5, .int ((shr (M.1 k1 (ix (1 + v2))) ((M.1 6 (ix v2)) - 1)) &&& 1)), (0, .ref (ad 0)), (1, .ref (ad k1)), (2, .int v2), (3, .int v3), (4, .int v4)]) hx hb dX2_sentBy_16 hl (by decide) rfl (fun ls hl => ?_)
  refine lv_aload_n hx hb dX2_sentBy_18 rfl (lv_at hl 1 rfl) ?_
  refine lv_aload_n hx hb dX2_sentBy_19 rfl (lv_at hl 2 rfl) ?_
  refine lv_iload_n hx hb dX2_sentBy_20 rfl (lv_at hl 3 rfl) ?_
  obtain ⟨r21, h21, hf⟩ := bR_some hf
  refine g_calliV X hl.1 hZ hA hW (c_X2_isMarked l D cy ad hA1 h21) cw_X2_isMarked ql_X2_124 iO_X2 rfl (by decide) rfl (Nat.le_of_ble_eq_true rfl) dX2_sentBy_21 (fun H locs hW => ?_)
  obtain ⟨k37, hk37, hf⟩ := jn_some0 hf
  have hJ37 : ∀  (H : Heap) (locs : List Loc) (ls : Array Slot), k37 = some r → Wd D 20 ad (CM ad cy) A s.heap M H locs → lv_has ls 7 [(0, .ref (ad 0)), (1, .ref (ad k1)), (2, .int v2), (3, .int v3), (4, .int v4), (5, .int ((shr (M.1 k1 (ix (1 + v2))) ((M.1 6 (ix v2)) - 1)) &&& 1))] → W p l e (rmD 1) s m ([.ref (ad 0), .ref (ad k1), .int v2, .int v3, .int v4] : List Value).toArray below meth c H locs 0 0 Q (F0 m 37 ls []) := by
    intro  H locs ls hf hW hl
    rw [hk37] at hf
    refine lv_iload hx hb dX2_sentBy_37 (lv_at hl 4 rfl) ?_
    refine lv_istore (lv' := [(6, .int v4), (0, .ref (ad 0)), (1, .ref (ad k1)), (2, .int v2), (3, .int v3), (4, .int v4), (5, .int ((shr (M.1 k1 (ix (1 + v2))) ((M.1 6 (ix v2)) - 1)) &&& 1))]) hx hb dX2_sentBy_39 hl (by decide) rfl (fun ls hl => ?_)
    refine lv_iload_n hx hb dX2_sentBy_41 rfl (lv_at hl 4 rfl) ?_
    by_cases hc1 : v3 = 1
    · replace hf := ifp hc1 hf
      refine lv_tableIn (tgt := 76) hx hb dX2_sentBy_42 (by rw [hc1]; decide) (by rw [hc1]; decide) (by rw [hc1]; rfl) (by decide) ?_
      refine lv_aload_n hx hb dX2_sentBy_76 rfl (lv_at hl 1 rfl) ?_
      refine lv_aload_n hx hb dX2_sentBy_77 rfl (lv_at hl 2 rfl) ?_
      refine lv_iload_n hx hb dX2_sentBy_78 rfl (lv_at hl 3 rfl) ?_
      obtain ⟨r79, h79, hf⟩ := bR_some hf
      refine g_calliV X hl.1 hZ hA hW (c_X2_isMarked l D cy ad hA1 h79) cw_X2_isMarked ql_X2_124 iO_X2 rfl (by decide) rfl (Nat.le_of_ble_eq_true rfl) dX2_sentBy_79 (fun H locs hW => ?_)
      refine lv_if_eq (tgt := 89) hx hb dX2_sentBy_82 (by decide) (fun hc => ?_) (fun hc => ?_)
      · replace hf := ifp hc hf
        refine lv_iload hx hb dX2_sentBy_89 (lv_at hl 5 rfl) ?_
        exact g_iret X hr hlk hQ hW dX2_sentBy_91 (rd_some hf)
      · replace hf := ifn hc hf
        refine lv_iconst (v := 0) hx hb dX2_sentBy_85 (by decide) ?_
        refine lv_goto (tgt := 91) hx hb dX2_sentBy_86 (by decide) ?_
        exact g_iret X hr hlk hQ hW dX2_sentBy_91 (rd_some hf)
    · replace hf := ifn hc1 hf
      by_cases hc2 : v3 = 2
      · replace hf := ifp hc2 hf
        refine lv_tableIn (tgt := 92) hx hb dX2_sentBy_42 (by rw [hc2]; decide) (by rw [hc2]; decide) (by rw [hc2]; rfl) (by decide) ?_
        refine lv_iload hx hb dX2_sentBy_92 (lv_at hl 0 rfl) ?_
        exact g_iret X hr hlk hQ hW dX2_sentBy_94 (rd_some hf)
      · replace hf := ifn hc2 hf
        by_cases hc3 : v3 = 3
        · replace hf := ifp hc3 hf
          refine lv_tableIn (tgt := 134) hx hb dX2_sentBy_42 (by rw [hc3]; decide) (by rw [hc3]; decide) (by rw [hc3]; rfl) (by decide) ?_
          refine lv_iload hx hb dX2_sentBy_134 (lv_at hl 5 rfl) ?_
          exact g_iret X hr hlk hQ hW dX2_sentBy_136 (rd_some hf)
        · replace hf := ifn hc3 hf
          by_cases hc4 : v3 = 4
          · replace hf := ifp hc4 hf
            refine lv_tableIn (tgt := 95) hx hb dX2_sentBy_42 (by rw [hc4]; decide) (by rw [hc4]; decide) (by rw [hc4]; rfl) (by decide) ?_
            refine lv_aload_n hx hb dX2_sentBy_95 rfl (lv_at hl 1 rfl) ?_
            refine lv_aload_n hx hb dX2_sentBy_96 rfl (lv_at hl 2 rfl) ?_
            refine lv_iload_n hx hb dX2_sentBy_97 rfl (lv_at hl 3 rfl) ?_
            obtain ⟨r98, h98, hf⟩ := bR_some hf
            refine g_calliV X hl.1 hZ hA hW (c_X2_isMarked l D cy ad hA1 h98) cw_X2_isMarked ql_X2_124 iO_X2 rfl (by decide) rfl (Nat.le_of_ble_eq_true rfl) dX2_sentBy_98 (fun H locs hW => ?_)
            refine lv_if_eq (tgt := 111) hx hb dX2_sentBy_101 (by decide) (fun hc => ?_) (fun hc => ?_)
            · replace hf := ifp hc hf
              refine lv_iload hx hb dX2_sentBy_111 (lv_at hl 5 rfl) ?_
              exact g_iret X hr hlk hQ hW dX2_sentBy_113 (rd_some hf)
            · replace hf := ifn hc hf
              refine lv_iconst (v := 1) hx hb dX2_sentBy_104 (by decide) ?_
              refine lv_iload hx hb dX2_sentBy_105 (lv_at hl 5 rfl) ?_
              refine lv_isub hx hb dX2_sentBy_107 ?_
              refine lv_goto (tgt := 113) hx hb dX2_sentBy_108 (by decide) ?_
              exact g_iret X hr hlk hQ hW dX2_sentBy_113 (rd_some hf)
          · replace hf := ifn hc4 hf
            by_cases hc5 : v3 = 5
            · replace hf := ifp hc5 hf
              refine lv_tableIn (tgt := 114) hx hb dX2_sentBy_42 (by rw [hc5]; decide) (by rw [hc5]; decide) (by rw [hc5]; rfl) (by decide) ?_
              refine lv_aload_n hx hb dX2_sentBy_114 rfl (lv_at hl 2 rfl) ?_
              refine lv_iconst (v := 0) hx hb dX2_sentBy_115 (by decide) ?_
              obtain ⟨hi116, hf⟩ := grd_some hf
              refine g_iald X hW hA1 hi116 dX2_sentBy_116 ?_
              refine lv_iconst (v := 3) hx hb dX2_sentBy_117 (by decide) ?_
              refine r_irem hx hb dX2_sentBy_118 (by decide) ?_
              refine lv_if_ne (tgt := 131) hx hb dX2_sentBy_119 (by decide) (fun hc => ?_) (fun hc => ?_)
              · replace hf := ifn hc hf
                refine lv_iload hx hb dX2_sentBy_131 (lv_at hl 0 rfl) ?_
                exact g_iret X hr hlk hQ hW dX2_sentBy_133 (rd_some hf)
              · replace hf := ifp hc hf
                refine lv_iload hx hb dX2_sentBy_122 (lv_at hl 6 rfl) ?_
                refine lv_if_ne (tgt := 131) hx hb dX2_sentBy_124 (by decide) (fun hc => ?_) (fun hc => ?_)
                · replace hf := ifn hc hf
                  refine lv_iload hx hb dX2_sentBy_131 (lv_at hl 0 rfl) ?_
                  exact g_iret X hr hlk hQ hW dX2_sentBy_133 (rd_some hf)
                · replace hf := ifp hc hf
                  refine lv_iconst (v := 0) hx hb dX2_sentBy_127 (by decide) ?_
                  refine lv_goto (tgt := 133) hx hb dX2_sentBy_128 (by decide) ?_
                  exact g_iret X hr hlk hQ hW dX2_sentBy_133 (rd_some hf)
            · replace hf := ifn hc5 hf
              refine lv_tableOut (tgt := 134) hx hb dX2_sentBy_42 (by have q1 := sw_ne (a := 1) hc1 (by decide); have q2 := sw_ne (a := 2) hc2 (by decide); have q3 := sw_ne (a := 3) hc3 (by decide); have q4 := sw_ne (a := 4) hc4 (by decide); have q5 := sw_ne (a := 5) hc5 (by decide); omega) (by decide) ?_
              refine lv_iload hx hb dX2_sentBy_134 (lv_at hl 5 rfl) ?_
              exact g_iret X hr hlk hQ hW dX2_sentBy_136 (rd_some hf)
  obtain ⟨k39, hk39, hf⟩ := jn_some1 hf
  have hJ39 : ∀ (t0_39j : Int32) (H : Heap) (locs : List Loc) (ls : Array Slot), k39 t0_39j = some r → Wd D 20 ad (CM ad cy) A s.heap M H locs → lv_has ls 7 [(0, .ref (ad 0)), (1, .ref (ad k1)), (2, .int v2), (3, .int v3), (4, .int v4), (5, .int ((shr (M.1 k1 (ix (1 + v2))) ((M.1 6 (ix v2)) - 1)) &&& 1))] → W p l e (rmD 1) s m ([.ref (ad 0), .ref (ad k1), .int v2, .int v3, .int v4] : List Value).toArray below meth c H locs 0 0 Q (F0 m 39 ls [.int t0_39j]) := by
    intro t0_39j H locs ls hf hW hl
    rw [hk39] at hf
    refine lv_istore (lv' := [(6, .int t0_39j), (0, .ref (ad 0)), (1, .ref (ad k1)), (2, .int v2), (3, .int v3), (4, .int v4), (5, .int ((shr (M.1 k1 (ix (1 + v2))) ((M.1 6 (ix v2)) - 1)) &&& 1))]) hx hb dX2_sentBy_39 hl (by decide) rfl (fun ls hl => ?_)
    refine lv_iload_n hx hb dX2_sentBy_41 rfl (lv_at hl 4 rfl) ?_
    by_cases hc1 : v3 = 1
    · replace hf := ifp hc1 hf
      refine lv_tableIn (tgt := 76) hx hb dX2_sentBy_42 (by rw [hc1]; decide) (by rw [hc1]; decide) (by rw [hc1]; rfl) (by decide) ?_
      refine lv_aload_n hx hb dX2_sentBy_76 rfl (lv_at hl 1 rfl) ?_
      refine lv_aload_n hx hb dX2_sentBy_77 rfl (lv_at hl 2 rfl) ?_
      refine lv_iload_n hx hb dX2_sentBy_78 rfl (lv_at hl 3 rfl) ?_
      obtain ⟨r79, h79, hf⟩ := bR_some hf
      refine g_calliV X hl.1 hZ hA hW (c_X2_isMarked l D cy ad hA1 h79) cw_X2_isMarked ql_X2_124 iO_X2 rfl (by decide) rfl (Nat.le_of_ble_eq_true rfl) dX2_sentBy_79 (fun H locs hW => ?_)
      refine lv_if_eq (tgt := 89) hx hb dX2_sentBy_82 (by decide) (fun hc => ?_) (fun hc => ?_)
      · replace hf := ifp hc hf
        refine lv_iload hx hb dX2_sentBy_89 (lv_at hl 5 rfl) ?_
        exact g_iret X hr hlk hQ hW dX2_sentBy_91 (rd_some hf)
      · replace hf := ifn hc hf
        refine lv_iconst (v := 0) hx hb dX2_sentBy_85 (by decide) ?_
        refine lv_goto (tgt := 91) hx hb dX2_sentBy_86 (by decide) ?_
        exact g_iret X hr hlk hQ hW dX2_sentBy_91 (rd_some hf)
    · replace hf := ifn hc1 hf
      by_cases hc2 : v3 = 2
      · replace hf := ifp hc2 hf
        refine lv_tableIn (tgt := 92) hx hb dX2_sentBy_42 (by rw [hc2]; decide) (by rw [hc2]; decide) (by rw [hc2]; rfl) (by decide) ?_
        refine lv_iload hx hb dX2_sentBy_92 (lv_at hl 0 rfl) ?_
        exact g_iret X hr hlk hQ hW dX2_sentBy_94 (rd_some hf)
      · replace hf := ifn hc2 hf
        by_cases hc3 : v3 = 3
        · replace hf := ifp hc3 hf
          refine lv_tableIn (tgt := 134) hx hb dX2_sentBy_42 (by rw [hc3]; decide) (by rw [hc3]; decide) (by rw [hc3]; rfl) (by decide) ?_
          refine lv_iload hx hb dX2_sentBy_134 (lv_at hl 5 rfl) ?_
          exact g_iret X hr hlk hQ hW dX2_sentBy_136 (rd_some hf)
        · replace hf := ifn hc3 hf
          by_cases hc4 : v3 = 4
          · replace hf := ifp hc4 hf
            refine lv_tableIn (tgt := 95) hx hb dX2_sentBy_42 (by rw [hc4]; decide) (by rw [hc4]; decide) (by rw [hc4]; rfl) (by decide) ?_
            refine lv_aload_n hx hb dX2_sentBy_95 rfl (lv_at hl 1 rfl) ?_
            refine lv_aload_n hx hb dX2_sentBy_96 rfl (lv_at hl 2 rfl) ?_
            refine lv_iload_n hx hb dX2_sentBy_97 rfl (lv_at hl 3 rfl) ?_
            obtain ⟨r98, h98, hf⟩ := bR_some hf
            refine g_calliV X hl.1 hZ hA hW (c_X2_isMarked l D cy ad hA1 h98) cw_X2_isMarked ql_X2_124 iO_X2 rfl (by decide) rfl (Nat.le_of_ble_eq_true rfl) dX2_sentBy_98 (fun H locs hW => ?_)
            refine lv_if_eq (tgt := 111) hx hb dX2_sentBy_101 (by decide) (fun hc => ?_) (fun hc => ?_)
            · replace hf := ifp hc hf
              refine lv_iload hx hb dX2_sentBy_111 (lv_at hl 5 rfl) ?_
              exact g_iret X hr hlk hQ hW dX2_sentBy_113 (rd_some hf)
            · replace hf := ifn hc hf
              refine lv_iconst (v := 1) hx hb dX2_sentBy_104 (by decide) ?_
              refine lv_iload hx hb dX2_sentBy_105 (lv_at hl 5 rfl) ?_
              refine lv_isub hx hb dX2_sentBy_107 ?_
              refine lv_goto (tgt := 113) hx hb dX2_sentBy_108 (by decide) ?_
              exact g_iret X hr hlk hQ hW dX2_sentBy_113 (rd_some hf)
          · replace hf := ifn hc4 hf
            by_cases hc5 : v3 = 5
            · replace hf := ifp hc5 hf
              refine lv_tableIn (tgt := 114) hx hb dX2_sentBy_42 (by rw [hc5]; decide) (by rw [hc5]; decide) (by rw [hc5]; rfl) (by decide) ?_
              refine lv_aload_n hx hb dX2_sentBy_114 rfl (lv_at hl 2 rfl) ?_
              refine lv_iconst (v := 0) hx hb dX2_sentBy_115 (by decide) ?_
              obtain ⟨hi116, hf⟩ := grd_some hf
              refine g_iald X hW hA1 hi116 dX2_sentBy_116 ?_
              refine lv_iconst (v := 3) hx hb dX2_sentBy_117 (by decide) ?_
              refine r_irem hx hb dX2_sentBy_118 (by decide) ?_
              refine lv_if_ne (tgt := 131) hx hb dX2_sentBy_119 (by decide) (fun hc => ?_) (fun hc => ?_)
              · replace hf := ifn hc hf
                refine lv_iload hx hb dX2_sentBy_131 (lv_at hl 0 rfl) ?_
                exact g_iret X hr hlk hQ hW dX2_sentBy_133 (rd_some hf)
              · replace hf := ifp hc hf
                refine lv_iload hx hb dX2_sentBy_122 (lv_at hl 6 rfl) ?_
                refine lv_if_ne (tgt := 131) hx hb dX2_sentBy_124 (by decide) (fun hc => ?_) (fun hc => ?_)
                · replace hf := ifn hc hf
                  refine lv_iload hx hb dX2_sentBy_131 (lv_at hl 0 rfl) ?_
                  exact g_iret X hr hlk hQ hW dX2_sentBy_133 (rd_some hf)
                · replace hf := ifp hc hf
                  refine lv_iconst (v := 0) hx hb dX2_sentBy_127 (by decide) ?_
                  refine lv_goto (tgt := 133) hx hb dX2_sentBy_128 (by decide) ?_
                  exact g_iret X hr hlk hQ hW dX2_sentBy_133 (rd_some hf)
            · replace hf := ifn hc5 hf
              refine lv_tableOut (tgt := 134) hx hb dX2_sentBy_42 (by have q1 := sw_ne (a := 1) hc1 (by decide); have q2 := sw_ne (a := 2) hc2 (by decide); have q3 := sw_ne (a := 3) hc3 (by decide); have q4 := sw_ne (a := 4) hc4 (by decide); have q5 := sw_ne (a := 5) hc5 (by decide); omega) (by decide) ?_
              refine lv_iload hx hb dX2_sentBy_134 (lv_at hl 5 rfl) ?_
              exact g_iret X hr hlk hQ hW dX2_sentBy_136 (rd_some hf)
  refine lv_if_eq (tgt := 37) hx hb dX2_sentBy_24 (by decide) (fun hc => ?_) (fun hc => ?_)
  · replace hf := ifp hc hf
    exact hJ37  H locs ls hf hW (lv_sub hl [1, 2, 3, 4, 5, 0] rfl)
  · replace hf := ifn hc hf
    refine lv_iload hx hb dX2_sentBy_27 (lv_at hl 0 rfl) ?_
    refine lv_iconst (v := 1) hx hb dX2_sentBy_29 (by decide) ?_
    refine lv_icmp_ne (tgt := 37) hx hb dX2_sentBy_30 (by decide) (fun hc => ?_) (fun hc => ?_)
    · replace hf := ifn hc hf
      exact hJ37  H locs ls hf hW (lv_sub hl [1, 2, 3, 4, 5, 0] rfl)
    · replace hf := ifp hc hf
      refine lv_iconst (v := 1) hx hb dX2_sentBy_33 (by decide) ?_
      refine lv_goto (tgt := 39) hx hb dX2_sentBy_34 (by decide) ?_
      exact hJ39 1 H locs ls hf hW (lv_sub hl [1, 2, 3, 4, 5, 0] rfl)

def f_X2_outOf (k1 : Nat) (n1 : Nat) (v2 : Int32) (M : Mem) : Option Int32 :=
  (bR (f_X2_isReady k1 n1 v2 M) (fun r3 => (if r3 = 0 then (some 0) else (grd (inb (1 + v2) n1) (some ((M.1 k1 (ix (1 + v2))) &&& 1))))))
set_option maxHeartbeats 4000000 in
set_option maxRecDepth 100000 in
theorem c_X2_outOf (l : Launch) (D : va_G) (cy : Nat → ClassId) (ad : Nat → Nat) {k1 : Nat} {n1 : Nat} (hA1 : isA (CM ad cy) 20 k1 (cy 0) n1) {v2 : Int32} {M : Mem} {r : Int32} (hf : f_X2_outOf k1 n1 v2 M = some r) : MetX l 20 (CM ad cy) D cy ad yX2_outOf cX2_outOf 3 (some .int) 1 [.ref (ad 0), .ref (ad k1), .int v2] M (fun A => QI r M 20 (CM ad cy) D cy ad A) := by
  refine MetX.of (own := RX2) (by decide) rfl (Nat.le_of_ble_eq_true rfl) ?_
  intro p e s m below meth c A Q ls X hr hlk hZ hA hQ hW hl
  have hl : lv_has ls 3 [(0, .ref (ad 0)), (1, .ref (ad k1)), (2, .int v2)] := hl
  have hx := X.1
  have hb := X.2.1
  obtain ⟨H, hH⟩ : ∃ H, H = s.heap := ⟨_, rfl⟩
  obtain ⟨locs, hlo⟩ : ∃ q : List Loc, q = [] := ⟨_, rfl⟩
  have hW : Wd D 20 ad (CM ad cy) A s.heap M H locs := by rw [hH, hlo]; exact hW
  suffices hh : W p l e (rmD 1) s m ([.ref (ad 0), .ref (ad k1), .int v2] : List Value).toArray below meth c H locs 0 0 Q (F0 m 0 ls []) by rw [hH, hlo] at hh; exact hh
  unfold f_X2_outOf at hf
  refine lv_aload_n hx hb dX2_outOf_0 rfl (lv_at hl 0 rfl) ?_
  refine lv_aload_n hx hb dX2_outOf_1 rfl (lv_at hl 1 rfl) ?_
  refine lv_iload_n hx hb dX2_outOf_2 rfl (lv_at hl 2 rfl) ?_
  obtain ⟨r3, h3, hf⟩ := bR_some hf
  refine g_calliV X hl.1 hZ hA hW (c_X2_isReady l D cy ad hA1 h3) cw_X2_isReady ql_X2_128 iO_X2 rfl (by decide) rfl (Nat.le_of_ble_eq_true rfl) dX2_outOf_3 (fun H locs hW => ?_)
  refine lv_if_eq (tgt := 19) hx hb dX2_outOf_6 (by decide) (fun hc => ?_) (fun hc => ?_)
  · replace hf := ifp hc hf
    refine lv_iconst (v := 0) hx hb dX2_outOf_19 (by decide) ?_
    exact g_iret X hr hlk hQ hW dX2_outOf_20 (rd_some hf)
  · replace hf := ifn hc hf
    refine lv_aload_n hx hb dX2_outOf_9 rfl (lv_at hl 1 rfl) ?_
    refine lv_iconst (v := 1) hx hb dX2_outOf_10 (by decide) ?_
    refine lv_iload_n hx hb dX2_outOf_11 rfl (lv_at hl 2 rfl) ?_
    refine lv_iadd hx hb dX2_outOf_12 ?_
    obtain ⟨hi13, hf⟩ := grd_some hf
    refine g_iald X hW hA1 hi13 dX2_outOf_13 ?_
    refine lv_iconst (v := 1) hx hb dX2_outOf_14 (by decide) ?_
    refine lv_iand hx hb dX2_outOf_15 ?_
    refine lv_goto (tgt := 20) hx hb dX2_outOf_16 (by decide) ?_
    exact g_iret X hr hlk hQ hW dX2_outOf_20 (rd_some hf)

def f_X2_fromWhich_L5 (k1 : Nat) (n1 : Nat) (v2_L5 : Int32) (M : Mem) : Nat → Int32 → Int32 → Option Int32
  | 0, _, _ => none
  | n + 1, v3_L5, v4_L5 => (if (M.1 0 4) ≤ v4_L5 then (some v3_L5) else (grd (inb (8 + v4_L5) n1) (jn (fun (k31 : Int32 → Option Int32) => (if (M.1 k1 (ix (8 + v4_L5))) = v2_L5 then (k31 v4_L5) else (k31 v3_L5))) (fun (t0_31j : Int32) => (f_X2_fromWhich_L5 k1 n1 v2_L5 M n t0_31j (v4_L5 + 1))))))
def f_X2_fromWhich (k1 : Nat) (n1 : Nat) (v2 : Int32) (M : Mem) : Option Int32 :=
  (f_X2_fromWhich_L5 k1 n1 v2 M FU 0 0)
set_option maxHeartbeats 4000000 in
set_option maxRecDepth 100000 in
theorem c_X2_fromWhich (l : Launch) (D : va_G) (cy : Nat → ClassId) (ad : Nat → Nat) {k1 : Nat} {n1 : Nat} (hA1 : isA (CM ad cy) 20 k1 (cy 0) n1) {v2 : Int32} {M : Mem} {r : Int32} (hf : f_X2_fromWhich k1 n1 v2 M = some r) : MetX l 20 (CM ad cy) D cy ad yX2_fromWhich cX2_fromWhich 5 (some .int) 0 [.ref (ad 0), .ref (ad k1), .int v2] M (fun A => QI r M 20 (CM ad cy) D cy ad A) := by
  refine MetX.of (own := RX2) (by decide) rfl (Nat.le_of_ble_eq_true rfl) ?_
  intro p e s m below meth c A Q ls X hr hlk hZ hA hQ hW hl
  have hl : lv_has ls 5 [(0, .ref (ad 0)), (1, .ref (ad k1)), (2, .int v2)] := hl
  have hx := X.1
  have hb := X.2.1
  have hL5 : ∀ (v2_L5 : Int32)  (n : Nat) (v3_L5 : Int32) (v4_L5 : Int32) (H : Heap) (locs : List Loc) (ls : Array Slot), f_X2_fromWhich_L5 k1 n1 v2_L5 M n v3_L5 v4_L5 = some r → Wd D 20 ad (CM ad cy) A s.heap M H locs → lv_has ls 5 [(0, .ref (ad 0)), (1, .ref (ad k1)), (2, .int v2_L5), (3, .int v3_L5), (4, .int v4_L5)] → W p l e (rmD 0) s m ([.ref (ad 0), .ref (ad k1), .int v2] : List Value).toArray below meth c H locs 0 0 Q (F0 m 5 ls []) := by
    intro v2_L5 n
    induction n with
    | zero =>
      intro v3_L5 v4_L5 H locs ls hf
      cases (show (none : Option Int32) = some r from hf)
    | succ n ih =>
      intro v3_L5 v4_L5 H locs ls hf hW hl
      rw [f_X2_fromWhich_L5] at hf
      refine lv_iload hx hb dX2_fromWhich_5 (lv_at hl 4 rfl) ?_
      refine lv_aload_n hx hb dX2_fromWhich_7 rfl (lv_at hl 0 rfl) ?_
      refine gf_X2_79 X hW dX2_fromWhich_8 ?_
      refine lv_icmp_ge (tgt := 38) hx hb dX2_fromWhich_11 (by decide) (fun hc => ?_) (fun hc => ?_)
      · replace hf := ifp hc hf
        refine lv_iload_n hx hb dX2_fromWhich_38 rfl (lv_at hl 3 rfl) ?_
        exact g_iret X hr hlk hQ hW dX2_fromWhich_39 (rd_some hf)
      · replace hf := ifn hc hf
        refine lv_aload_n hx hb dX2_fromWhich_14 rfl (lv_at hl 1 rfl) ?_
        refine lv_bipush (v := 8) hx hb dX2_fromWhich_15 (by decide) ?_
        refine lv_iload hx hb dX2_fromWhich_17 (lv_at hl 4 rfl) ?_
        refine lv_iadd hx hb dX2_fromWhich_19 ?_
        obtain ⟨hi20, hf⟩ := grd_some hf
        refine g_iald X hW hA1 hi20 dX2_fromWhich_20 ?_
        refine lv_iload_n hx hb dX2_fromWhich_21 rfl (lv_at hl 2 rfl) ?_
        obtain ⟨k31, hk31, hf⟩ := jn_some1 hf
        have hJ31 : ∀ (t0_31j : Int32) (H : Heap) (locs : List Loc) (ls : Array Slot), k31 t0_31j = some r → Wd D 20 ad (CM ad cy) A s.heap M H locs → lv_has ls 5 [(0, .ref (ad 0)), (1, .ref (ad k1)), (2, .int v2_L5), (4, .int v4_L5)] → W p l e (rmD 0) s m ([.ref (ad 0), .ref (ad k1), .int v2] : List Value).toArray below meth c H locs 0 0 Q (F0 m 31 ls [.int t0_31j]) := by
          intro t0_31j H locs ls hf hW hl
          rw [hk31] at hf
          refine lv_istore_n (lv' := [(3, .int t0_31j), (0, .ref (ad 0)), (1, .ref (ad k1)), (2, .int v2_L5), (4, .int v4_L5)]) hx hb dX2_fromWhich_31 rfl hl (by decide) rfl (fun ls hl => ?_)
          refine lv_iinc (v := (v4_L5 + 1)) (lv' := [(4, .int (v4_L5 + 1)), (3, .int t0_31j), (0, .ref (ad 0)), (1, .ref (ad k1)), (2, .int v2_L5)]) hx hb dX2_fromWhich_32 hl (k := 4) rfl rfl (by decide) rfl (fun ls hl => ?_)
          refine lv_goto (tgt := 5) hx hb dX2_fromWhich_35 (by decide) ?_
          exact ih t0_31j (v4_L5 + 1) H locs ls hf hW (lv_sub hl [2, 3, 4, 1, 0] rfl)
        refine lv_icmp_ne (tgt := 30) hx hb dX2_fromWhich_22 (by decide) (fun hc => ?_) (fun hc => ?_)
        · replace hf := ifn hc hf
          refine lv_iload_n hx hb dX2_fromWhich_30 rfl (lv_at hl 3 rfl) ?_
          exact hJ31 v3_L5 H locs ls hf hW (lv_sub hl [0, 1, 2, 4] rfl)
        · replace hf := ifp hc hf
          refine lv_iload hx hb dX2_fromWhich_25 (lv_at hl 4 rfl) ?_
          refine lv_goto (tgt := 31) hx hb dX2_fromWhich_27 (by decide) ?_
          exact hJ31 v4_L5 H locs ls hf hW (lv_sub hl [0, 1, 2, 4] rfl)
  obtain ⟨H, hH⟩ : ∃ H, H = s.heap := ⟨_, rfl⟩
  obtain ⟨locs, hlo⟩ : ∃ q : List Loc, q = [] := ⟨_, rfl⟩
  have hW : Wd D 20 ad (CM ad cy) A s.heap M H locs := by rw [hH, hlo]; exact hW
  suffices hh : W p l e (rmD 0) s m ([.ref (ad 0), .ref (ad k1), .int v2] : List Value).toArray below meth c H locs 0 0 Q (F0 m 0 ls []) by rw [hH, hlo] at hh; exact hh
  unfold f_X2_fromWhich at hf
  refine lv_iconst (v := 0) hx hb dX2_fromWhich_0 (by decide) ?_
  refine lv_istore_n (lv' := [(3, .int 0), (0, .ref (ad 0)), (1, .ref (ad k1)), (2, .int v2)]) hx hb dX2_fromWhich_1 rfl hl (by decide) rfl (fun ls hl => ?_)
  refine lv_iconst (v := 0) hx hb dX2_fromWhich_2 (by decide) ?_
  refine lv_istore (lv' := [(4, .int 0), (3, .int 0), (0, .ref (ad 0)), (1, .ref (ad k1)), (2, .int v2)]) hx hb dX2_fromWhich_3 hl (by decide) rfl (fun ls hl => ?_)
  exact hL5 v2 FU 0 0 H locs ls hf hW (lv_sub hl [2, 3, 4, 1, 0] rfl)

def f_X2_tickOn_L2 (k1 : Nat) (n1 : Nat) (k81 : Mem → Option Mem) : Nat → Int32 → Mem → Option Mem
  | 0, _, _ => none
  | n + 1, v2_L2, M_L2 => (if (M_L2.1 0 4) ≤ v2_L2 then (k81 M_L2) else (grd (inb v2_L2 7) (bR (f_X2_fromWhich k1 n1 v2_L2 M_L2) (fun r24 => (bR (f_X2_outOf k1 n1 r24 M_L2) (fun r27 => (bR (f_X2_sentBy k1 n1 v2_L2 (M_L2.1 5 (ix v2_L2)) r27 M_L2) (fun r30 => (bR (f_X2_isReady k1 n1 v2_L2 M_L2) (fun r42 => (jn (fun (k74 : Int32 → Option Mem) => (if r42 = 0 then (grd (inb (1 + v2_L2) n1) (k74 (M_L2.1 k1 (ix (1 + v2_L2))))) else (grd (inb (1 + v2_L2) n1) (grd (inb v2_L2 7) (k74 ((shr (M_L2.1 k1 (ix (1 + v2_L2))) 1) ||| (shl r30 ((M_L2.1 6 (ix v2_L2)) - 1)))))))) (fun (t0_74j : Int32) => (grd (inb v2_L2 7) (lt (sI M_L2 17 (ix v2_L2) t0_74j) (fun M74 => (f_X2_tickOn_L2 k1 n1 k81 n (v2_L2 + 1) M74))))))))))))))))
def f_X2_tickOn (k1 : Nat) (n1 : Nat) (M : Mem) : Option Mem :=
  (jn (fun (k81 : Mem → Option Mem) => (f_X2_tickOn_L2 k1 n1 k81 FU 0 M)) (fun  (M_81x : Mem) => (bR (f_X2_bring 17 7 k1 n1 0 1 (M_81x.1 0 4) M_81x) (fun M92 => (grd (inb 0 n1) (grd (inb 0 n1) (lt (sI M92 k1 (ix 0) ((M92.1 k1 (ix 0)) + 1)) (fun M101 => (some M101)))))))))
set_option maxHeartbeats 4000000 in
set_option maxRecDepth 100000 in
theorem c_X2_tickOn (l : Launch) (D : va_G) (cy : Nat → ClassId) (ad : Nat → Nat) {k1 : Nat} {n1 : Nat} (hA1 : isA (CM ad cy) 20 k1 (cy 0) n1)  {M M' : Mem} (hf : f_X2_tickOn k1 n1 M = some M') : MetX l 20 (CM ad cy) D cy ad yX2_tickOn cX2_tickOn 4 none 2 [.ref (ad 0), .ref (ad k1)] M (fun A => QV M' 20 (CM ad cy) D cy ad A) := by
  refine MetX.of (own := RX2) (by decide) rfl (Nat.le_of_ble_eq_true rfl) ?_
  intro p e s m below meth c A Q ls X hr hlk hZ hA hQ hW hl
  have hl : lv_has ls 4 [(0, .ref (ad 0)), (1, .ref (ad k1))] := hl
  have hx := X.1
  have hb := X.2.1
  have hL2 : ∀  (k81 : Mem → Option Mem) (hJ81 : ∀  (M_81x : Mem) (H : Heap) (locs : List Loc) (ls : Array Slot), k81 M_81x = some M' → Wd D 20 ad (CM ad cy) A s.heap M_81x H locs → lv_has ls 4 [(0, .ref (ad 0)), (1, .ref (ad k1))] → W p l e (rmD 2) s m ([.ref (ad 0), .ref (ad k1)] : List Value).toArray below meth c H locs 0 0 Q (F0 m 81 ls [])) (n : Nat) (v2_L2 : Int32) (M_L2 : Mem) (H : Heap) (locs : List Loc) (ls : Array Slot), f_X2_tickOn_L2 k1 n1 k81 n v2_L2 M_L2 = some M' → Wd D 20 ad (CM ad cy) A s.heap M_L2 H locs → lv_has ls 4 [(0, .ref (ad 0)), (1, .ref (ad k1)), (2, .int v2_L2)] → W p l e (rmD 2) s m ([.ref (ad 0), .ref (ad k1)] : List Value).toArray below meth c H locs 0 0 Q (F0 m 2 ls []) := by
    intro k81 hJ81 n
    induction n with
    | zero =>
      intro v2_L2 M_L2 H locs ls hf
      cases (show (none : Option Mem) = some M' from hf)
    | succ n ih =>
      intro v2_L2 M_L2 H locs ls hf hW hl
      rw [f_X2_tickOn_L2] at hf
      refine lv_iload_n hx hb dX2_tickOn_2 rfl (lv_at hl 2 rfl) ?_
      refine lv_aload_n hx hb dX2_tickOn_3 rfl (lv_at hl 0 rfl) ?_
      refine gf_X2_79 X hW dX2_tickOn_4 ?_
      refine lv_icmp_ge (tgt := 81) hx hb dX2_tickOn_7 (by decide) (fun hc => ?_) (fun hc => ?_)
      · replace hf := ifp hc hf
        exact hJ81 M_L2 H locs ls hf hW (lv_sub hl [0, 1] rfl)
      · replace hf := ifn hc hf
        refine lv_aload_n hx hb dX2_tickOn_10 rfl (lv_at hl 0 rfl) ?_
        refine lv_aload_n hx hb dX2_tickOn_11 rfl (lv_at hl 1 rfl) ?_
        refine lv_iload_n hx hb dX2_tickOn_12 rfl (lv_at hl 2 rfl) ?_
        refine lv_aload_n hx hb dX2_tickOn_13 rfl (lv_at hl 0 rfl) ?_
        refine gf_X2_22 X hW dX2_tickOn_14 ?_
        refine lv_iload_n hx hb dX2_tickOn_17 rfl (lv_at hl 2 rfl) ?_
        obtain ⟨hi18, hf⟩ := grd_some hf
        refine g_iald X hW iM_kind hi18 dX2_tickOn_18 ?_
        refine lv_aload_n hx hb dX2_tickOn_19 rfl (lv_at hl 0 rfl) ?_
        refine lv_aload_n hx hb dX2_tickOn_20 rfl (lv_at hl 1 rfl) ?_
        refine lv_aload_n hx hb dX2_tickOn_21 rfl (lv_at hl 0 rfl) ?_
        refine lv_aload_n hx hb dX2_tickOn_22 rfl (lv_at hl 1 rfl) ?_
        refine lv_iload_n hx hb dX2_tickOn_23 rfl (lv_at hl 2 rfl) ?_
        obtain ⟨r24, h24, hf⟩ := bR_some hf
        refine g_calliV X hl.1 hZ hA hW (c_X2_fromWhich l D cy ad hA1 h24) cw_X2_fromWhich ql_X2_131 iO_X2 rfl (by decide) rfl (Nat.le_of_ble_eq_true rfl) dX2_tickOn_24 (fun H locs hW => ?_)
        obtain ⟨r27, h27, hf⟩ := bR_some hf
        refine g_calliV X hl.1 hZ hA hW (c_X2_outOf l D cy ad hA1 h27) cw_X2_outOf ql_X2_135 iO_X2 rfl (by decide) rfl (Nat.le_of_ble_eq_true rfl) dX2_tickOn_27 (fun H locs hW => ?_)
        obtain ⟨r30, h30, hf⟩ := bR_some hf
        refine g_calliV X hl.1 hZ hA hW (c_X2_sentBy l D cy ad hA1 h30) cw_X2_sentBy ql_X2_138 iO_X2 rfl (by decide) rfl (Nat.le_of_ble_eq_true rfl) dX2_tickOn_30 (fun H locs hW => ?_)
        refine lv_istore_n (lv' := [(3, .int r30), (0, .ref (ad 0)), (1, .ref (ad k1)), (2, .int v2_L2)]) hx hb dX2_tickOn_33 rfl hl (by decide) rfl (fun ls hl => ?_)
        refine lv_aload_n hx hb dX2_tickOn_34 rfl (lv_at hl 1 rfl) ?_
        refine gf_X2_63 X hW dX2_tickOn_35 ?_
        refine lv_iload_n hx hb dX2_tickOn_38 rfl (lv_at hl 3 rfl) ?_
        refine lv_aload_n hx hb dX2_tickOn_39 rfl (lv_at hl 1 rfl) ?_
        refine lv_aload_n hx hb dX2_tickOn_40 rfl (lv_at hl 2 rfl) ?_
        refine lv_iload_n hx hb dX2_tickOn_41 rfl (lv_at hl 3 rfl) ?_
        obtain ⟨r42, h42, hf⟩ := bR_some hf
        refine g_calliV X hl.1 hZ hA hW (c_X2_isReady l D cy ad hA1 h42) cw_X2_isReady ql_X2_128 iO_X2 rfl (by decide) rfl (Nat.le_of_ble_eq_true rfl) dX2_tickOn_42 (fun H locs hW => ?_)
        obtain ⟨k74, hk74, hf⟩ := jn_some1 hf
        have hJ74 : ∀ (t0_74j : Int32) (H : Heap) (locs : List Loc) (ls : Array Slot), k74 t0_74j = some M' → Wd D 20 ad (CM ad cy) A s.heap M_L2 H locs → lv_has ls 4 [(0, .ref (ad 0)), (1, .ref (ad k1)), (2, .int v2_L2)] → W p l e (rmD 2) s m ([.ref (ad 0), .ref (ad k1)] : List Value).toArray below meth c H locs 0 0 Q (F0 m 74 ls [.int t0_74j, .int v2_L2, .ref (ad 17)]) := by
          intro t0_74j H locs ls hf hW hl
          rw [hk74] at hf
          obtain ⟨hi74, hf⟩ := grd_some hf
          refine g_iast X hW iM_then hi74 dX2_tickOn_74 (fun H locs hW => ?_)
          obtain ⟨M74, e74, hf⟩ := lt_some hf
          have hW : Wd D 20 ad (CM ad cy) A s.heap M74 H locs := by rw [e74]; exact hW
          refine lv_iinc (v := (v2_L2 + 1)) (lv' := [(2, .int (v2_L2 + 1)), (0, .ref (ad 0)), (1, .ref (ad k1))]) hx hb dX2_tickOn_75 hl (k := 2) rfl rfl (by decide) rfl (fun ls hl => ?_)
          refine lv_goto (tgt := 2) hx hb dX2_tickOn_78 (by decide) ?_
          exact ih (v2_L2 + 1) M74 H locs ls hf hW (lv_sub hl [1, 2, 0] rfl)
        refine lv_if_eq (tgt := 69) hx hb dX2_tickOn_45 (by decide) (fun hc => ?_) (fun hc => ?_)
        · replace hf := ifp hc hf
          refine lv_aload_n hx hb dX2_tickOn_69 rfl (lv_at hl 2 rfl) ?_
          refine lv_iconst (v := 1) hx hb dX2_tickOn_70 (by decide) ?_
          refine lv_iload_n hx hb dX2_tickOn_71 rfl (lv_at hl 3 rfl) ?_
          refine lv_iadd hx hb dX2_tickOn_72 ?_
          obtain ⟨hi73, hf⟩ := grd_some hf
          refine g_iald X hW hA1 hi73 dX2_tickOn_73 ?_
          exact hJ74 (M_L2.1 k1 (ix (1 + v2_L2))) H locs ls hf hW (lv_sub hl [1, 2, 3] rfl)
        · replace hf := ifn hc hf
          refine lv_aload_n hx hb dX2_tickOn_48 rfl (lv_at hl 2 rfl) ?_
          refine lv_iconst (v := 1) hx hb dX2_tickOn_49 (by decide) ?_
          refine lv_iload_n hx hb dX2_tickOn_50 rfl (lv_at hl 3 rfl) ?_
          refine lv_iadd hx hb dX2_tickOn_51 ?_
          obtain ⟨hi52, hf⟩ := grd_some hf
          refine g_iald X hW hA1 hi52 dX2_tickOn_52 ?_
          refine lv_iconst (v := 1) hx hb dX2_tickOn_53 (by decide) ?_
          refine r_ishr hx hb dX2_tickOn_54 ?_
          refine lv_iload_n hx hb dX2_tickOn_55 rfl (lv_at hl 0 rfl) ?_
          refine lv_aload_n hx hb dX2_tickOn_56 rfl (lv_at hl 1 rfl) ?_
          refine gf_X2_25 X hW dX2_tickOn_57 ?_
          refine lv_iload_n hx hb dX2_tickOn_60 rfl (lv_at hl 3 rfl) ?_
          obtain ⟨hi61, hf⟩ := grd_some hf
          refine g_iald X hW iM_size hi61 dX2_tickOn_61 ?_
          refine lv_iconst (v := 1) hx hb dX2_tickOn_62 (by decide) ?_
          refine lv_isub hx hb dX2_tickOn_63 ?_
          refine r_ishl hx hb dX2_tickOn_64 ?_
          refine lv_ior hx hb dX2_tickOn_65 ?_
          refine lv_goto (tgt := 74) hx hb dX2_tickOn_66 (by decide) ?_
          exact hJ74 ((shr (M_L2.1 k1 (ix (1 + v2_L2))) 1) ||| (shl r30 ((M_L2.1 6 (ix v2_L2)) - 1))) H locs ls hf hW (lv_sub hl [1, 2, 3] rfl)
  obtain ⟨H, hH⟩ : ∃ H, H = s.heap := ⟨_, rfl⟩
  obtain ⟨locs, hlo⟩ : ∃ q : List Loc, q = [] := ⟨_, rfl⟩
  have hW : Wd D 20 ad (CM ad cy) A s.heap M H locs := by rw [hH, hlo]; exact hW
  suffices hh : W p l e (rmD 2) s m ([.ref (ad 0), .ref (ad k1)] : List Value).toArray below meth c H locs 0 0 Q (F0 m 0 ls []) by rw [hH, hlo] at hh; exact hh
  unfold f_X2_tickOn at hf
  refine lv_iconst (v := 0) hx hb dX2_tickOn_0 (by decide) ?_
  refine lv_istore_n (lv' := [(2, .int 0), (0, .ref (ad 0)), (1, .ref (ad k1))]) hx hb dX2_tickOn_1 rfl hl (by decide) rfl (fun ls hl => ?_)
  obtain ⟨k81, hk81, hf⟩ := jn_some1 hf
  have hJ81 : ∀  (M_81x : Mem) (H : Heap) (locs : List Loc) (ls : Array Slot), k81 M_81x = some M' → Wd D 20 ad (CM ad cy) A s.heap M_81x H locs → lv_has ls 4 [(0, .ref (ad 0)), (1, .ref (ad k1))] → W p l e (rmD 2) s m ([.ref (ad 0), .ref (ad k1)] : List Value).toArray below meth c H locs 0 0 Q (F0 m 81 ls []) := by
    intro M_81x H locs ls hf hW hl
    rw [hk81] at hf
    refine lv_aload_n hx hb dX2_tickOn_81 rfl (lv_at hl 0 rfl) ?_
    refine gf_X2_63 X hW dX2_tickOn_82 ?_
    refine lv_iconst (v := 0) hx hb dX2_tickOn_85 (by decide) ?_
    refine lv_aload_n hx hb dX2_tickOn_86 rfl (lv_at hl 1 rfl) ?_
    refine lv_iconst (v := 1) hx hb dX2_tickOn_87 (by decide) ?_
    refine lv_aload_n hx hb dX2_tickOn_88 rfl (lv_at hl 0 rfl) ?_
    refine gf_X2_79 X hW dX2_tickOn_89 ?_
    obtain ⟨M92, h92, hf⟩ := bR_some hf
    refine g_callvS X hl.1 hZ hA hW (c_X2_bring l D cy ad iM_then hA1 h92) cs_X2_bring ql_X2_117 rfl (by decide) rfl (Nat.le_of_ble_eq_true rfl) dX2_tickOn_92 (fun H locs hW => ?_)
    refine lv_aload_n hx hb dX2_tickOn_95 rfl (lv_at hl 1 rfl) ?_
    refine lv_iconst (v := 0) hx hb dX2_tickOn_96 (by decide) ?_
    refine lv_dup2_11 hx hb dX2_tickOn_97 rfl rfl ?_
    obtain ⟨hi98, hf⟩ := grd_some hf
    refine g_iald X hW hA1 hi98 dX2_tickOn_98 ?_
    refine lv_iconst (v := 1) hx hb dX2_tickOn_99 (by decide) ?_
    refine lv_iadd hx hb dX2_tickOn_100 ?_
    obtain ⟨hi101, hf⟩ := grd_some hf
    refine g_iast X hW hA1 hi101 dX2_tickOn_101 (fun H locs hW => ?_)
    obtain ⟨M101, e101, hf⟩ := lt_some hf
    have hW : Wd D 20 ad (CM ad cy) A s.heap M101 H locs := by rw [e101]; exact hW
    exact g_vret X hr hlk hQ hW dX2_tickOn_102 hf
  exact hL2 k81 hJ81 FU 0 M H locs ls hf hW (lv_sub hl [1, 2, 0] rfl)

def f_X2_pulses_L4 (k1 : Nat) (n1 : Nat) (M : Mem) : Nat → Int32 → Int32 → Option Int32
  | 0, _, _ => none
  | n + 1, v2_L4, v3_L4 => (if (M.1 0 4) ≤ v3_L4 then (some v2_L4) else (grd (inb (1 + v3_L4) n1) (bR (f_X2_bits (M.1 k1 (ix (1 + v3_L4))) M) (fun r18 => (f_X2_pulses_L4 k1 n1 M n (v2_L4 + r18) (v3_L4 + 1))))))
def f_X2_pulses (k1 : Nat) (n1 : Nat) (M : Mem) : Option Int32 :=
  (f_X2_pulses_L4 k1 n1 M FU 0 0)
set_option maxHeartbeats 4000000 in
set_option maxRecDepth 100000 in
theorem c_X2_pulses (l : Launch) (D : va_G) (cy : Nat → ClassId) (ad : Nat → Nat) {k1 : Nat} {n1 : Nat} (hA1 : isA (CM ad cy) 20 k1 (cy 0) n1)  {M : Mem} {r : Int32} (hf : f_X2_pulses k1 n1 M = some r) : MetX l 20 (CM ad cy) D cy ad yX2_pulses cX2_pulses 4 (some .int) 1 [.ref (ad 0), .ref (ad k1)] M (fun A => QI r M 20 (CM ad cy) D cy ad A) := by
  refine MetX.of (own := RX2) (by decide) rfl (Nat.le_of_ble_eq_true rfl) ?_
  intro p e s m below meth c A Q ls X hr hlk hZ hA hQ hW hl
  have hl : lv_has ls 4 [(0, .ref (ad 0)), (1, .ref (ad k1))] := hl
  have hx := X.1
  have hb := X.2.1
  have hL4 : ∀   (n : Nat) (v2_L4 : Int32) (v3_L4 : Int32) (H : Heap) (locs : List Loc) (ls : Array Slot), f_X2_pulses_L4 k1 n1 M n v2_L4 v3_L4 = some r → Wd D 20 ad (CM ad cy) A s.heap M H locs → lv_has ls 4 [(0, .ref (ad 0)), (1, .ref (ad k1)), (2, .int v2_L4), (3, .int v3_L4)] → W p l e (rmD 1) s m ([.ref (ad 0), .ref (ad k1)] : List Value).toArray below meth c H locs 0 0 Q (F0 m 4 ls []) := by
    intro  n
    induction n with
    | zero =>
      intro v2_L4 v3_L4 H locs ls hf
      cases (show (none : Option Int32) = some r from hf)
    | succ n ih =>
      intro v2_L4 v3_L4 H locs ls hf hW hl
      rw [f_X2_pulses_L4] at hf
      refine lv_iload_n hx hb dX2_pulses_4 rfl (lv_at hl 3 rfl) ?_
      refine lv_aload_n hx hb dX2_pulses_5 rfl (lv_at hl 0 rfl) ?_
      refine gf_X2_79 X hW dX2_pulses_6 ?_
      refine lv_icmp_ge (tgt := 29) hx hb dX2_pulses_9 (by decide) (fun hc => ?_) (fun hc => ?_)
      · replace hf := ifp hc hf
        refine lv_iload_n hx hb dX2_pulses_29 rfl (lv_at hl 2 rfl) ?_
        exact g_iret X hr hlk hQ hW dX2_pulses_30 (rd_some hf)
      · replace hf := ifn hc hf
        refine lv_iload_n hx hb dX2_pulses_12 rfl (lv_at hl 2 rfl) ?_
        refine lv_aload_n hx hb dX2_pulses_13 rfl (lv_at hl 1 rfl) ?_
        refine lv_iconst (v := 1) hx hb dX2_pulses_14 (by decide) ?_
        refine lv_iload_n hx hb dX2_pulses_15 rfl (lv_at hl 3 rfl) ?_
        refine lv_iadd hx hb dX2_pulses_16 ?_
        obtain ⟨hi17, hf⟩ := grd_some hf
        refine g_iald X hW hA1 hi17 dX2_pulses_17 ?_
        obtain ⟨r18, h18, hf⟩ := bR_some hf
        refine g_calliS X hl.1 hZ hA hW (c_X2_bits l D cy ad h18) cs_X2_bits ql_X2_142 rfl (by decide) rfl (Nat.le_of_ble_eq_true rfl) dX2_pulses_18 (fun H locs hW => ?_)
        refine lv_iadd hx hb dX2_pulses_21 ?_
        refine lv_istore_n (lv' := [(2, .int (v2_L4 + r18)), (0, .ref (ad 0)), (1, .ref (ad k1)), (3, .int v3_L4)]) hx hb dX2_pulses_22 rfl hl (by decide) rfl (fun ls hl => ?_)
        refine lv_iinc (v := (v3_L4 + 1)) (lv' := [(3, .int (v3_L4 + 1)), (2, .int (v2_L4 + r18)), (0, .ref (ad 0)), (1, .ref (ad k1))]) hx hb dX2_pulses_23 hl (k := 3) rfl rfl (by decide) rfl (fun ls hl => ?_)
        refine lv_goto (tgt := 4) hx hb dX2_pulses_26 (by decide) ?_
        exact ih (v2_L4 + r18) (v3_L4 + 1) H locs ls hf hW (lv_sub hl [2, 3, 1, 0] rfl)
  obtain ⟨H, hH⟩ : ∃ H, H = s.heap := ⟨_, rfl⟩
  obtain ⟨locs, hlo⟩ : ∃ q : List Loc, q = [] := ⟨_, rfl⟩
  have hW : Wd D 20 ad (CM ad cy) A s.heap M H locs := by rw [hH, hlo]; exact hW
  suffices hh : W p l e (rmD 1) s m ([.ref (ad 0), .ref (ad k1)] : List Value).toArray below meth c H locs 0 0 Q (F0 m 0 ls []) by rw [hH, hlo] at hh; exact hh
  unfold f_X2_pulses at hf
  refine lv_iconst (v := 0) hx hb dX2_pulses_0 (by decide) ?_
  refine lv_istore_n (lv' := [(2, .int 0), (0, .ref (ad 0)), (1, .ref (ad k1))]) hx hb dX2_pulses_1 rfl hl (by decide) rfl (fun ls hl => ?_)
  refine lv_iconst (v := 0) hx hb dX2_pulses_2 (by decide) ?_
  refine lv_istore_n (lv' := [(3, .int 0), (2, .int 0), (0, .ref (ad 0)), (1, .ref (ad k1))]) hx hb dX2_pulses_3 rfl hl (by decide) rfl (fun ls hl => ?_)
  exact hL4  FU 0 0 H locs ls hf hW (lv_sub hl [2, 3, 1, 0] rfl)

def f_X2_sentNow (v1 : Int32) (v2 : Int32) (M : Mem) : Option Int32 :=
  (bR (f_X2_fromWhich 8 15 v1 M) (fun r18 => (bR (f_X2_outOf 8 15 r18 M) (fun r21 => (bR (f_X2_sentBy 8 15 v1 v2 r21 M) (fun r24 => (some r24)))))))
set_option maxHeartbeats 4000000 in
set_option maxRecDepth 100000 in
theorem c_X2_sentNow (l : Launch) (D : va_G) (cy : Nat → ClassId) (ad : Nat → Nat)   {v1 : Int32} {v2 : Int32} {M : Mem} {r : Int32} (hf : f_X2_sentNow v1 v2 M = some r) : MetX l 20 (CM ad cy) D cy ad yX2_sentNow cX2_sentNow 3 (some .int) 2 [.ref (ad 0), .int v1, .int v2] M (fun A => QI r M 20 (CM ad cy) D cy ad A) := by
  refine MetX.of (own := RX2) (by decide) rfl (Nat.le_of_ble_eq_true rfl) ?_
  intro p e s m below meth c A Q ls X hr hlk hZ hA hQ hW hl
  have hl : lv_has ls 3 [(0, .ref (ad 0)), (1, .int v1), (2, .int v2)] := hl
  have hx := X.1
  have hb := X.2.1
  obtain ⟨H, hH⟩ : ∃ H, H = s.heap := ⟨_, rfl⟩
  obtain ⟨locs, hlo⟩ : ∃ q : List Loc, q = [] := ⟨_, rfl⟩
  have hW : Wd D 20 ad (CM ad cy) A s.heap M H locs := by rw [hH, hlo]; exact hW
  suffices hh : W p l e (rmD 2) s m ([.ref (ad 0), .int v1, .int v2] : List Value).toArray below meth c H locs 0 0 Q (F0 m 0 ls []) by rw [hH, hlo] at hh; exact hh
  unfold f_X2_sentNow at hf
  refine lv_aload_n hx hb dX2_sentNow_0 rfl (lv_at hl 0 rfl) ?_
  refine lv_aload_n hx hb dX2_sentNow_1 rfl (lv_at hl 0 rfl) ?_
  refine gf_X2_31 X hW dX2_sentNow_2 ?_
  refine lv_iload_n hx hb dX2_sentNow_5 rfl (lv_at hl 1 rfl) ?_
  refine lv_iload_n hx hb dX2_sentNow_6 rfl (lv_at hl 2 rfl) ?_
  refine lv_aload_n hx hb dX2_sentNow_7 rfl (lv_at hl 0 rfl) ?_
  refine lv_aload_n hx hb dX2_sentNow_8 rfl (lv_at hl 0 rfl) ?_
  refine gf_X2_31 X hW dX2_sentNow_9 ?_
  refine lv_aload_n hx hb dX2_sentNow_12 rfl (lv_at hl 0 rfl) ?_
  refine lv_aload_n hx hb dX2_sentNow_13 rfl (lv_at hl 0 rfl) ?_
  refine gf_X2_31 X hW dX2_sentNow_14 ?_
  refine lv_iload_n hx hb dX2_sentNow_17 rfl (lv_at hl 1 rfl) ?_
  obtain ⟨r18, h18, hf⟩ := bR_some hf
  refine g_calliV X hl.1 hZ hA hW (c_X2_fromWhich l D cy ad iM_st h18) cw_X2_fromWhich ql_X2_131 iO_X2 rfl (by decide) rfl (Nat.le_of_ble_eq_true rfl) dX2_sentNow_18 (fun H locs hW => ?_)
  obtain ⟨r21, h21, hf⟩ := bR_some hf
  refine g_calliV X hl.1 hZ hA hW (c_X2_outOf l D cy ad iM_st h21) cw_X2_outOf ql_X2_135 iO_X2 rfl (by decide) rfl (Nat.le_of_ble_eq_true rfl) dX2_sentNow_21 (fun H locs hW => ?_)
  obtain ⟨r24, h24, hf⟩ := bR_some hf
  refine g_calliV X hl.1 hZ hA hW (c_X2_sentBy l D cy ad iM_st h24) cw_X2_sentBy ql_X2_138 iO_X2 rfl (by decide) rfl (Nat.le_of_ble_eq_true rfl) dX2_sentNow_24 (fun H locs hW => ?_)
  exact g_iret X hr hlk hQ hW dX2_sentNow_27 (rd_some hf)

def f_X2_tube (v1 : Int32) (v2 : Int32) (M : Mem) : Option (Int32 × Mem) :=
  (bR (f_X2_isTube v1 M) (fun r2 => (if r2 = 0 then (some ((-1), M)) else (bR (f_X2_in v2 0 6 M) (fun r12 => (if r12 = 0 then (some ((-1), M)) else (if v2 = 0 then (grd (inb v1 7) (bI (f_X2_tells (M.1 5 (ix v1)) 1 M) (fun r68 M68 => (some (r68, M68))))) else (if v2 = 1 then (grd (inb v1 7) (bI (f_X2_tells (M.1 6 (ix v1)) 1 M) (fun r80 M80 => (some (r80, M80))))) else (if v2 = 2 then (grd (inb v1 7) (bI (f_X2_tells (M.1 7 (ix v1)) 1 M) (fun r92 M92 => (some (r92, M92))))) else (if v2 = 3 then (grd (inb (1 + v1) 15) (bI (f_X2_tells (M.1 8 (ix (1 + v1))) 1 M) (fun r106 M106 => (some (r106, M106))))) else (if v2 = 4 then (grd (inb (8 + v1) 15) (bI (f_X2_tells (M.1 8 (ix (8 + v1))) 1 M) (fun r121 M121 => (some (r121, M121))))) else (if v2 = 5 then (bR (f_X2_isReady 8 15 v1 M) (fun r132 => (jn (fun (k143 : Int32 → Option (Int32 × Mem)) => (if r132 = 0 then (k143 0) else (k143 1))) (fun (t0_143j : Int32) => (bI (f_X2_tells t0_143j 1 M) (fun r144 M144 => (some (r144, M144)))))))) else (grd (inb v1 7) (bR (f_X2_sentNow v1 (M.1 5 (ix v1)) M) (fun r157 => (bI (f_X2_tells r157 1 M) (fun r161 M161 => (some (r161, M161)))))))))))))))))))
set_option maxHeartbeats 4000000 in
set_option maxRecDepth 100000 in
theorem c_X2_tube (l : Launch) (D : va_G) (cy : Nat → ClassId) (ad : Nat → Nat)   {v1 : Int32} {v2 : Int32} {M M' : Mem} {r : Int32} (hf : f_X2_tube v1 v2 M = some (r, M')) : MetX l 20 (CM ad cy) D cy ad yX2_tube cX2_tube 3 (some .int) 3 [.ref (ad 0), .int v1, .int v2] M (fun A => QI r M' 20 (CM ad cy) D cy ad A) := by
  refine MetX.of (own := RX2) (by decide) rfl (Nat.le_of_ble_eq_true rfl) ?_
  intro p e s m below meth c A Q ls X hr hlk hZ hA hQ hW hl
  have hl : lv_has ls 3 [(0, .ref (ad 0)), (1, .int v1), (2, .int v2)] := hl
  have hx := X.1
  have hb := X.2.1
  obtain ⟨H, hH⟩ : ∃ H, H = s.heap := ⟨_, rfl⟩
  obtain ⟨locs, hlo⟩ : ∃ q : List Loc, q = [] := ⟨_, rfl⟩
  have hW : Wd D 20 ad (CM ad cy) A s.heap M H locs := by rw [hH, hlo]; exact hW
  suffices hh : W p l e (rmD 3) s m ([.ref (ad 0), .int v1, .int v2] : List Value).toArray below meth c H locs 0 0 Q (F0 m 0 ls []) by rw [hH, hlo] at hh; exact hh
  unfold f_X2_tube at hf
  refine lv_aload_n hx hb dX2_tube_0 rfl (lv_at hl 0 rfl) ?_
  refine lv_iload_n hx hb dX2_tube_1 rfl (lv_at hl 1 rfl) ?_
  obtain ⟨r2, h2, hf⟩ := bR_some hf
  refine g_calliV X hl.1 hZ hA hW (c_X2_isTube l D cy ad h2) cw_X2_isTube ql_X2_145 iO_X2 rfl (by decide) rfl (Nat.le_of_ble_eq_true rfl) dX2_tube_2 (fun H locs hW => ?_)
  refine lv_if_eq (tgt := 18) hx hb dX2_tube_5 (by decide) (fun hc => ?_) (fun hc => ?_)
  · replace hf := ifp hc hf
    refine lv_iconst (v := (-1)) hx hb dX2_tube_18 (by decide) ?_
    exact g_iret X hr hlk hQ hW dX2_tube_19 hf
  · replace hf := ifn hc hf
    refine lv_iload_n hx hb dX2_tube_8 rfl (lv_at hl 2 rfl) ?_
    refine lv_iconst (v := 0) hx hb dX2_tube_9 (by decide) ?_
    refine lv_bipush (v := 6) hx hb dX2_tube_10 (by decide) ?_
    obtain ⟨r12, h12, hf⟩ := bR_some hf
    refine g_calliS X hl.1 hZ hA hW (c_X2_in l D cy ad h12) cs_X2_in ql_X2_82 rfl (by decide) rfl (Nat.le_of_ble_eq_true rfl) dX2_tube_12 (fun H locs hW => ?_)
    refine lv_if_ne (tgt := 20) hx hb dX2_tube_15 (by decide) (fun hc => ?_) (fun hc => ?_)
    · replace hf := ifn hc hf
      refine lv_iload_n hx hb dX2_tube_20 rfl (lv_at hl 2 rfl) ?_
      by_cases hc0 : v2 = 0
      · replace hf := ifp hc0 hf
        refine lv_tableIn (tgt := 60) hx hb dX2_tube_21 (by rw [hc0]; decide) (by rw [hc0]; decide) (by rw [hc0]; rfl) (by decide) ?_
        refine lv_aload_n hx hb dX2_tube_60 rfl (lv_at hl 0 rfl) ?_
        refine lv_aload_n hx hb dX2_tube_61 rfl (lv_at hl 0 rfl) ?_
        refine gf_X2_22 X hW dX2_tube_62 ?_
        refine lv_iload_n hx hb dX2_tube_65 rfl (lv_at hl 1 rfl) ?_
        obtain ⟨hi66, hf⟩ := grd_some hf
        refine g_iald X hW iM_kind hi66 dX2_tube_66 ?_
        refine lv_iconst (v := 1) hx hb dX2_tube_67 (by decide) ?_
        obtain ⟨r68, M68, h68, hf⟩ := bI_some hf
        refine g_calliV X hl.1 hZ hA hW (c_X2_tells l D cy ad h68) cw_X2_tells ql_X2_102 iO_X2 rfl (by decide) rfl (Nat.le_of_ble_eq_true rfl) dX2_tube_68 (fun H locs hW => ?_)
        exact g_iret X hr hlk hQ hW dX2_tube_71 hf
      · replace hf := ifn hc0 hf
        by_cases hc1 : v2 = 1
        · replace hf := ifp hc1 hf
          refine lv_tableIn (tgt := 72) hx hb dX2_tube_21 (by rw [hc1]; decide) (by rw [hc1]; decide) (by rw [hc1]; rfl) (by decide) ?_
          refine lv_aload_n hx hb dX2_tube_72 rfl (lv_at hl 0 rfl) ?_
          refine lv_aload_n hx hb dX2_tube_73 rfl (lv_at hl 0 rfl) ?_
          refine gf_X2_25 X hW dX2_tube_74 ?_
          refine lv_iload_n hx hb dX2_tube_77 rfl (lv_at hl 1 rfl) ?_
          obtain ⟨hi78, hf⟩ := grd_some hf
          refine g_iald X hW iM_size hi78 dX2_tube_78 ?_
          refine lv_iconst (v := 1) hx hb dX2_tube_79 (by decide) ?_
          obtain ⟨r80, M80, h80, hf⟩ := bI_some hf
          refine g_calliV X hl.1 hZ hA hW (c_X2_tells l D cy ad h80) cw_X2_tells ql_X2_102 iO_X2 rfl (by decide) rfl (Nat.le_of_ble_eq_true rfl) dX2_tube_80 (fun H locs hW => ?_)
          exact g_iret X hr hlk hQ hW dX2_tube_83 hf
        · replace hf := ifn hc1 hf
          by_cases hc2 : v2 = 2
          · replace hf := ifp hc2 hf
            refine lv_tableIn (tgt := 84) hx hb dX2_tube_21 (by rw [hc2]; decide) (by rw [hc2]; decide) (by rw [hc2]; rfl) (by decide) ?_
            refine lv_aload_n hx hb dX2_tube_84 rfl (lv_at hl 0 rfl) ?_
            refine lv_aload_n hx hb dX2_tube_85 rfl (lv_at hl 0 rfl) ?_
            refine gf_X2_28 X hW dX2_tube_86 ?_
            refine lv_iload_n hx hb dX2_tube_89 rfl (lv_at hl 1 rfl) ?_
            obtain ⟨hi90, hf⟩ := grd_some hf
            refine g_iald X hW iM_mark hi90 dX2_tube_90 ?_
            refine lv_iconst (v := 1) hx hb dX2_tube_91 (by decide) ?_
            obtain ⟨r92, M92, h92, hf⟩ := bI_some hf
            refine g_calliV X hl.1 hZ hA hW (c_X2_tells l D cy ad h92) cw_X2_tells ql_X2_102 iO_X2 rfl (by decide) rfl (Nat.le_of_ble_eq_true rfl) dX2_tube_92 (fun H locs hW => ?_)
            exact g_iret X hr hlk hQ hW dX2_tube_95 hf
          · replace hf := ifn hc2 hf
            by_cases hc3 : v2 = 3
            · replace hf := ifp hc3 hf
              refine lv_tableIn (tgt := 96) hx hb dX2_tube_21 (by rw [hc3]; decide) (by rw [hc3]; decide) (by rw [hc3]; rfl) (by decide) ?_
              refine lv_aload_n hx hb dX2_tube_96 rfl (lv_at hl 0 rfl) ?_
              refine lv_aload_n hx hb dX2_tube_97 rfl (lv_at hl 0 rfl) ?_
              refine gf_X2_31 X hW dX2_tube_98 ?_
              refine lv_iconst (v := 1) hx hb dX2_tube_101 (by decide) ?_
              refine lv_iload_n hx hb dX2_tube_102 rfl (lv_at hl 1 rfl) ?_
              refine lv_iadd hx hb dX2_tube_103 ?_
              obtain ⟨hi104, hf⟩ := grd_some hf
              refine g_iald X hW iM_st hi104 dX2_tube_104 ?_
              refine lv_iconst (v := 1) hx hb dX2_tube_105 (by decide) ?_
              obtain ⟨r106, M106, h106, hf⟩ := bI_some hf
              refine g_calliV X hl.1 hZ hA hW (c_X2_tells l D cy ad h106) cw_X2_tells ql_X2_102 iO_X2 rfl (by decide) rfl (Nat.le_of_ble_eq_true rfl) dX2_tube_106 (fun H locs hW => ?_)
              exact g_iret X hr hlk hQ hW dX2_tube_109 hf
            · replace hf := ifn hc3 hf
              by_cases hc4 : v2 = 4
              · replace hf := ifp hc4 hf
                refine lv_tableIn (tgt := 110) hx hb dX2_tube_21 (by rw [hc4]; decide) (by rw [hc4]; decide) (by rw [hc4]; rfl) (by decide) ?_
                refine lv_aload_n hx hb dX2_tube_110 rfl (lv_at hl 0 rfl) ?_
                refine lv_aload_n hx hb dX2_tube_111 rfl (lv_at hl 0 rfl) ?_
                refine gf_X2_31 X hW dX2_tube_112 ?_
                refine lv_bipush (v := 8) hx hb dX2_tube_115 (by decide) ?_
                refine lv_iload_n hx hb dX2_tube_117 rfl (lv_at hl 1 rfl) ?_
                refine lv_iadd hx hb dX2_tube_118 ?_
                obtain ⟨hi119, hf⟩ := grd_some hf
                refine g_iald X hW iM_st hi119 dX2_tube_119 ?_
                refine lv_iconst (v := 1) hx hb dX2_tube_120 (by decide) ?_
                obtain ⟨r121, M121, h121, hf⟩ := bI_some hf
                refine g_calliV X hl.1 hZ hA hW (c_X2_tells l D cy ad h121) cw_X2_tells ql_X2_102 iO_X2 rfl (by decide) rfl (Nat.le_of_ble_eq_true rfl) dX2_tube_121 (fun H locs hW => ?_)
                exact g_iret X hr hlk hQ hW dX2_tube_124 hf
              · replace hf := ifn hc4 hf
                by_cases hc5 : v2 = 5
                · replace hf := ifp hc5 hf
                  refine lv_tableIn (tgt := 125) hx hb dX2_tube_21 (by rw [hc5]; decide) (by rw [hc5]; decide) (by rw [hc5]; rfl) (by decide) ?_
                  refine lv_aload_n hx hb dX2_tube_125 rfl (lv_at hl 0 rfl) ?_
                  refine lv_aload_n hx hb dX2_tube_126 rfl (lv_at hl 0 rfl) ?_
                  refine lv_aload_n hx hb dX2_tube_127 rfl (lv_at hl 0 rfl) ?_
                  refine gf_X2_31 X hW dX2_tube_128 ?_
                  refine lv_iload_n hx hb dX2_tube_131 rfl (lv_at hl 1 rfl) ?_
                  obtain ⟨r132, h132, hf⟩ := bR_some hf
                  refine g_calliV X hl.1 hZ hA hW (c_X2_isReady l D cy ad iM_st h132) cw_X2_isReady ql_X2_128 iO_X2 rfl (by decide) rfl (Nat.le_of_ble_eq_true rfl) dX2_tube_132 (fun H locs hW => ?_)
                  obtain ⟨k143, hk143, hf⟩ := jn_some1 hf
                  have hJ143 : ∀ (t0_143j : Int32) (H : Heap) (locs : List Loc) (ls : Array Slot), k143 t0_143j = some (r, M') → Wd D 20 ad (CM ad cy) A s.heap M H locs → lv_has ls 3 [] → W p l e (rmD 3) s m ([.ref (ad 0), .int v1, .int v2] : List Value).toArray below meth c H locs 0 0 Q (F0 m 143 ls [.int t0_143j, .ref (ad 0)]) := by
                    intro t0_143j H locs ls hf hW hl
                    rw [hk143] at hf
                    refine lv_iconst (v := 1) hx hb dX2_tube_143 (by decide) ?_
                    obtain ⟨r144, M144, h144, hf⟩ := bI_some hf
                    refine g_calliV X hl.1 hZ hA hW (c_X2_tells l D cy ad h144) cw_X2_tells ql_X2_102 iO_X2 rfl (by decide) rfl (Nat.le_of_ble_eq_true rfl) dX2_tube_144 (fun H locs hW => ?_)
                    exact g_iret X hr hlk hQ hW dX2_tube_147 hf
                  refine lv_if_eq (tgt := 142) hx hb dX2_tube_135 (by decide) (fun hc => ?_) (fun hc => ?_)
                  · replace hf := ifp hc hf
                    refine lv_iconst (v := 0) hx hb dX2_tube_142 (by decide) ?_
                    exact hJ143 0 H locs ls hf hW (lv_sub hl [] rfl)
                  · replace hf := ifn hc hf
                    refine lv_iconst (v := 1) hx hb dX2_tube_138 (by decide) ?_
                    refine lv_goto (tgt := 143) hx hb dX2_tube_139 (by decide) ?_
                    exact hJ143 1 H locs ls hf hW (lv_sub hl [] rfl)
                · replace hf := ifn hc5 hf
                  refine lv_tableOut (tgt := 148) hx hb dX2_tube_21 (by have q0 := sw_ne (a := 0) hc0 (by decide); have q1 := sw_ne (a := 1) hc1 (by decide); have q2 := sw_ne (a := 2) hc2 (by decide); have q3 := sw_ne (a := 3) hc3 (by decide); have q4 := sw_ne (a := 4) hc4 (by decide); have q5 := sw_ne (a := 5) hc5 (by decide); omega) (by decide) ?_
                  refine lv_aload_n hx hb dX2_tube_148 rfl (lv_at hl 0 rfl) ?_
                  refine lv_aload_n hx hb dX2_tube_149 rfl (lv_at hl 0 rfl) ?_
                  refine lv_iload_n hx hb dX2_tube_150 rfl (lv_at hl 1 rfl) ?_
                  refine lv_aload_n hx hb dX2_tube_151 rfl (lv_at hl 0 rfl) ?_
                  refine gf_X2_22 X hW dX2_tube_152 ?_
                  refine lv_iload_n hx hb dX2_tube_155 rfl (lv_at hl 1 rfl) ?_
                  obtain ⟨hi156, hf⟩ := grd_some hf
                  refine g_iald X hW iM_kind hi156 dX2_tube_156 ?_
                  obtain ⟨r157, h157, hf⟩ := bR_some hf
                  refine g_calliV X hl.1 hZ hA hW (c_X2_sentNow l D cy ad h157) cw_X2_sentNow ql_X2_148 iO_X2 rfl (by decide) rfl (Nat.le_of_ble_eq_true rfl) dX2_tube_157 (fun H locs hW => ?_)
                  refine lv_iconst (v := 1) hx hb dX2_tube_160 (by decide) ?_
                  obtain ⟨r161, M161, h161, hf⟩ := bI_some hf
                  refine g_calliV X hl.1 hZ hA hW (c_X2_tells l D cy ad h161) cw_X2_tells ql_X2_102 iO_X2 rfl (by decide) rfl (Nat.le_of_ble_eq_true rfl) dX2_tube_161 (fun H locs hW => ?_)
                  exact g_iret X hr hlk hQ hW dX2_tube_164 hf
    · replace hf := ifp hc hf
      refine lv_iconst (v := (-1)) hx hb dX2_tube_18 (by decide) ?_
      exact g_iret X hr hlk hQ hW dX2_tube_19 hf

def f_X2_isA (v1 : Int32) (v2 : Int32) (M : Mem) : Option Int32 :=
  (grd (inb v1 7) (if (M.1 5 (ix v1)) = v2 then (some 1) else (jn (fun (k25 : Option Int32) => (if v2 = 1 then (grd (inb v1 7) (if (M.1 5 (ix v1)) = 4 then (some 1) else k25)) else k25)) ((if v2 = 2 then (grd (inb v1 7) (if (M.1 5 (ix v1)) = 5 then (some 1) else (some 0))) else (some 0))))))
set_option maxHeartbeats 4000000 in
set_option maxRecDepth 100000 in
theorem c_X2_isA (l : Launch) (D : va_G) (cy : Nat → ClassId) (ad : Nat → Nat)   {v1 : Int32} {v2 : Int32} {M : Mem} {r : Int32} (hf : f_X2_isA v1 v2 M = some r) : MetX l 20 (CM ad cy) D cy ad yX2_isA cX2_isA 3 (some .boolean) 0 [.ref (ad 0), .int v1, .int v2] M (fun A => QI r M 20 (CM ad cy) D cy ad A) := by
  refine MetX.of (own := RX2) (by decide) rfl (Nat.le_of_ble_eq_true rfl) ?_
  intro p e s m below meth c A Q ls X hr hlk hZ hA hQ hW hl
  have hl : lv_has ls 3 [(0, .ref (ad 0)), (1, .int v1), (2, .int v2)] := hl
  have hx := X.1
  have hb := X.2.1
  obtain ⟨H, hH⟩ : ∃ H, H = s.heap := ⟨_, rfl⟩
  obtain ⟨locs, hlo⟩ : ∃ q : List Loc, q = [] := ⟨_, rfl⟩
  have hW : Wd D 20 ad (CM ad cy) A s.heap M H locs := by rw [hH, hlo]; exact hW
  suffices hh : W p l e (rmD 0) s m ([.ref (ad 0), .int v1, .int v2] : List Value).toArray below meth c H locs 0 0 Q (F0 m 0 ls []) by rw [hH, hlo] at hh; exact hh
  unfold f_X2_isA at hf
  refine lv_aload_n hx hb dX2_isA_0 rfl (lv_at hl 0 rfl) ?_
  refine gf_X2_22 X hW dX2_isA_1 ?_
  refine lv_iload_n hx hb dX2_isA_4 rfl (lv_at hl 1 rfl) ?_
  obtain ⟨hi5, hf⟩ := grd_some hf
  refine g_iald X hW iM_kind hi5 dX2_isA_5 ?_
  refine lv_iload_n hx hb dX2_isA_6 rfl (lv_at hl 2 rfl) ?_
  refine lv_icmp_eq (tgt := 40) hx hb dX2_isA_7 (by decide) (fun hc => ?_) (fun hc => ?_)
  · replace hf := ifp hc hf
    refine lv_iconst (v := 1) hx hb dX2_isA_40 (by decide) ?_
    refine lv_goto (tgt := 45) hx hb dX2_isA_41 (by decide) ?_
    exact g_zret X hr hlk hQ hW dX2_isA_45 (by decide) (rd_some hf)
  · replace hf := ifn hc hf
    refine lv_iload_n hx hb dX2_isA_10 rfl (lv_at hl 2 rfl) ?_
    refine lv_iconst (v := 1) hx hb dX2_isA_11 (by decide) ?_
    obtain ⟨k25, hk25, hf⟩ := jn_some0 hf
    have hJ25 : ∀  (H : Heap) (locs : List Loc) (ls : Array Slot), k25 = some r → Wd D 20 ad (CM ad cy) A s.heap M H locs → lv_has ls 3 [(0, .ref (ad 0)), (1, .int v1), (2, .int v2)] → W p l e (rmD 0) s m ([.ref (ad 0), .int v1, .int v2] : List Value).toArray below meth c H locs 0 0 Q (F0 m 25 ls []) := by
      intro  H locs ls hf hW hl
      rw [hk25] at hf
      refine lv_iload_n hx hb dX2_isA_25 rfl (lv_at hl 2 rfl) ?_
      refine lv_iconst (v := 2) hx hb dX2_isA_26 (by decide) ?_
      refine lv_icmp_ne (tgt := 44) hx hb dX2_isA_27 (by decide) (fun hc => ?_) (fun hc => ?_)
      · replace hf := ifn hc hf
        refine lv_iconst (v := 0) hx hb dX2_isA_44 (by decide) ?_
        exact g_zret X hr hlk hQ hW dX2_isA_45 (by decide) (rd_some hf)
      · replace hf := ifp hc hf
        refine lv_aload_n hx hb dX2_isA_30 rfl (lv_at hl 0 rfl) ?_
        refine gf_X2_22 X hW dX2_isA_31 ?_
        refine lv_iload_n hx hb dX2_isA_34 rfl (lv_at hl 1 rfl) ?_
        obtain ⟨hi35, hf⟩ := grd_some hf
        refine g_iald X hW iM_kind hi35 dX2_isA_35 ?_
        refine lv_iconst (v := 5) hx hb dX2_isA_36 (by decide) ?_
        refine lv_icmp_ne (tgt := 44) hx hb dX2_isA_37 (by decide) (fun hc => ?_) (fun hc => ?_)
        · replace hf := ifn hc hf
          refine lv_iconst (v := 0) hx hb dX2_isA_44 (by decide) ?_
          exact g_zret X hr hlk hQ hW dX2_isA_45 (by decide) (rd_some hf)
        · replace hf := ifp hc hf
          refine lv_iconst (v := 1) hx hb dX2_isA_40 (by decide) ?_
          refine lv_goto (tgt := 45) hx hb dX2_isA_41 (by decide) ?_
          exact g_zret X hr hlk hQ hW dX2_isA_45 (by decide) (rd_some hf)
    refine lv_icmp_ne (tgt := 25) hx hb dX2_isA_12 (by decide) (fun hc => ?_) (fun hc => ?_)
    · replace hf := ifn hc hf
      exact hJ25  H locs ls hf hW (lv_sub hl [0, 1, 2] rfl)
    · replace hf := ifp hc hf
      refine lv_aload_n hx hb dX2_isA_15 rfl (lv_at hl 0 rfl) ?_
      refine gf_X2_22 X hW dX2_isA_16 ?_
      refine lv_iload_n hx hb dX2_isA_19 rfl (lv_at hl 1 rfl) ?_
      obtain ⟨hi20, hf⟩ := grd_some hf
      refine g_iald X hW iM_kind hi20 dX2_isA_20 ?_
      refine lv_iconst (v := 4) hx hb dX2_isA_21 (by decide) ?_
      refine lv_icmp_eq (tgt := 40) hx hb dX2_isA_22 (by decide) (fun hc => ?_) (fun hc => ?_)
      · replace hf := ifp hc hf
        refine lv_iconst (v := 1) hx hb dX2_isA_40 (by decide) ?_
        refine lv_goto (tgt := 45) hx hb dX2_isA_41 (by decide) ?_
        exact g_zret X hr hlk hQ hW dX2_isA_45 (by decide) (rd_some hf)
      · replace hf := ifn hc hf
        exact hJ25  H locs ls hf hW (lv_sub hl [0, 1, 2] rfl)

def f_X2_mark (v1 : Int32) (v2 : Int32) (M : Mem) : Option (Int32 × Mem) :=
  (bR (f_X2_isTube v1 M) (fun r2 => (if r2 = 0 then (some ((-1), M)) else (bR (f_X2_in v2 1 5 M) (fun r11 => (if r11 = 0 then (some ((-1), M)) else (bR (f_X2_isA v1 v2 M) (fun r22 => (if r22 = 0 then (bI (f_X2_found 3 M) (fun r30 M30 => (some (r30, M30)))) else (if v2 = 1 then (grd (inb v1 7) (grd (inb 0 15) (grd (inb v1 7) (grd (nz ((M.1 7 (ix v1)) + 2)) (grd (inb v1 7) (grd (nz ((M.1 7 (ix v1)) + 2)) (some ((irm (((M.1 7 (ix v1)) + 2) - (irm (M.1 8 (ix 0)) ((M.1 7 (ix v1)) + 2))) ((M.1 7 (ix v1)) + 2)), M)))))))) else (if v2 = 2 then (grd (inb v1 7) (bR (f_X2_sentBy 8 15 v1 (M.1 5 (ix v1)) 0 M) (fun r111 => (grd (inb v1 7) (bR (f_X2_sentBy 8 15 v1 (M.1 5 (ix v1)) 1 M) (fun r127 => (if r111 = r127 then (some (1, M)) else (some (0, M))))))))) else (if v2 = 3 then (grd (inb v1 7) (some ((2 * (M.1 6 (ix v1))), M))) else (if v2 = 4 then (bR (f_X2_sentNow v1 4 M) (fun r151 => (bR (f_X2_sentNow v1 1 M) (fun r157 => (if r151 = r157 then (some (0, M)) else (some (1, M))))))) else (bR (f_X2_sentNow v1 5 M) (fun r172 => (bR (f_X2_sentNow v1 2 M) (fun r178 => (if r172 = r178 then (some (0, M)) else (some (1, M))))))))))))))))))))
set_option maxHeartbeats 4000000 in
set_option maxRecDepth 100000 in
theorem c_X2_mark (l : Launch) (D : va_G) (cy : Nat → ClassId) (ad : Nat → Nat)   {v1 : Int32} {v2 : Int32} {M M' : Mem} {r : Int32} (hf : f_X2_mark v1 v2 M = some (r, M')) : MetX l 20 (CM ad cy) D cy ad yX2_mark cX2_mark 3 (some .int) 3 [.ref (ad 0), .int v1, .int v2] M (fun A => QI r M' 20 (CM ad cy) D cy ad A) := by
  refine MetX.of (own := RX2) (by decide) rfl (Nat.le_of_ble_eq_true rfl) ?_
  intro p e s m below meth c A Q ls X hr hlk hZ hA hQ hW hl
  have hl : lv_has ls 3 [(0, .ref (ad 0)), (1, .int v1), (2, .int v2)] := hl
  have hx := X.1
  have hb := X.2.1
  obtain ⟨H, hH⟩ : ∃ H, H = s.heap := ⟨_, rfl⟩
  obtain ⟨locs, hlo⟩ : ∃ q : List Loc, q = [] := ⟨_, rfl⟩
  have hW : Wd D 20 ad (CM ad cy) A s.heap M H locs := by rw [hH, hlo]; exact hW
  suffices hh : W p l e (rmD 3) s m ([.ref (ad 0), .int v1, .int v2] : List Value).toArray below meth c H locs 0 0 Q (F0 m 0 ls []) by rw [hH, hlo] at hh; exact hh
  unfold f_X2_mark at hf
  refine lv_aload_n hx hb dX2_mark_0 rfl (lv_at hl 0 rfl) ?_
  refine lv_iload_n hx hb dX2_mark_1 rfl (lv_at hl 1 rfl) ?_
  obtain ⟨r2, h2, hf⟩ := bR_some hf
  refine g_calliV X hl.1 hZ hA hW (c_X2_isTube l D cy ad h2) cw_X2_isTube ql_X2_145 iO_X2 rfl (by decide) rfl (Nat.le_of_ble_eq_true rfl) dX2_mark_2 (fun H locs hW => ?_)
  refine lv_if_eq (tgt := 17) hx hb dX2_mark_5 (by decide) (fun hc => ?_) (fun hc => ?_)
  · replace hf := ifp hc hf
    refine lv_iconst (v := (-1)) hx hb dX2_mark_17 (by decide) ?_
    exact g_iret X hr hlk hQ hW dX2_mark_18 hf
  · replace hf := ifn hc hf
    refine lv_iload_n hx hb dX2_mark_8 rfl (lv_at hl 2 rfl) ?_
    refine lv_iconst (v := 1) hx hb dX2_mark_9 (by decide) ?_
    refine lv_iconst (v := 5) hx hb dX2_mark_10 (by decide) ?_
    obtain ⟨r11, h11, hf⟩ := bR_some hf
    refine g_calliS X hl.1 hZ hA hW (c_X2_in l D cy ad h11) cs_X2_in ql_X2_82 rfl (by decide) rfl (Nat.le_of_ble_eq_true rfl) dX2_mark_11 (fun H locs hW => ?_)
    refine lv_if_ne (tgt := 19) hx hb dX2_mark_14 (by decide) (fun hc => ?_) (fun hc => ?_)
    · replace hf := ifn hc hf
      refine lv_aload_n hx hb dX2_mark_19 rfl (lv_at hl 0 rfl) ?_
      refine lv_iload_n hx hb dX2_mark_20 rfl (lv_at hl 1 rfl) ?_
      refine lv_iload_n hx hb dX2_mark_21 rfl (lv_at hl 2 rfl) ?_
      obtain ⟨r22, h22, hf⟩ := bR_some hf
      refine g_calliV X hl.1 hZ hA hW (c_X2_isA l D cy ad h22) cw_X2_isA ql_X2_151 iO_X2 rfl (by decide) rfl (Nat.le_of_ble_eq_true rfl) dX2_mark_22 (fun H locs hW => ?_)
      refine lv_if_ne (tgt := 34) hx hb dX2_mark_25 (by decide) (fun hc => ?_) (fun hc => ?_)
      · replace hf := ifn hc hf
        refine lv_iload_n hx hb dX2_mark_34 rfl (lv_at hl 2 rfl) ?_
        by_cases hc1 : v2 = 1
        · replace hf := ifp hc1 hf
          refine lv_tableIn (tgt := 64) hx hb dX2_mark_35 (by rw [hc1]; decide) (by rw [hc1]; decide) (by rw [hc1]; rfl) (by decide) ?_
          refine lv_aload_n hx hb dX2_mark_64 rfl (lv_at hl 0 rfl) ?_
          refine gf_X2_28 X hW dX2_mark_65 ?_
          refine lv_iload_n hx hb dX2_mark_68 rfl (lv_at hl 1 rfl) ?_
          obtain ⟨hi69, hf⟩ := grd_some hf
          refine g_iald X hW iM_mark hi69 dX2_mark_69 ?_
          refine lv_iconst (v := 2) hx hb dX2_mark_70 (by decide) ?_
          refine lv_iadd hx hb dX2_mark_71 ?_
          refine lv_aload_n hx hb dX2_mark_72 rfl (lv_at hl 0 rfl) ?_
          refine gf_X2_31 X hW dX2_mark_73 ?_
          refine lv_iconst (v := 0) hx hb dX2_mark_76 (by decide) ?_
          obtain ⟨hi77, hf⟩ := grd_some hf
          refine g_iald X hW iM_st hi77 dX2_mark_77 ?_
          refine lv_aload_n hx hb dX2_mark_78 rfl (lv_at hl 0 rfl) ?_
          refine gf_X2_28 X hW dX2_mark_79 ?_
          refine lv_iload_n hx hb dX2_mark_82 rfl (lv_at hl 1 rfl) ?_
          obtain ⟨hi83, hf⟩ := grd_some hf
          refine g_iald X hW iM_mark hi83 dX2_mark_83 ?_
          refine lv_iconst (v := 2) hx hb dX2_mark_84 (by decide) ?_
          refine lv_iadd hx hb dX2_mark_85 ?_
          obtain ⟨hz86, hf⟩ := grd_some hf
          refine r_irem hx hb dX2_mark_86 (nz_ne hz86) ?_
          refine lv_isub hx hb dX2_mark_87 ?_
          refine lv_aload_n hx hb dX2_mark_88 rfl (lv_at hl 0 rfl) ?_
          refine gf_X2_28 X hW dX2_mark_89 ?_
          refine lv_iload_n hx hb dX2_mark_92 rfl (lv_at hl 1 rfl) ?_
          obtain ⟨hi93, hf⟩ := grd_some hf
          refine g_iald X hW iM_mark hi93 dX2_mark_93 ?_
          refine lv_iconst (v := 2) hx hb dX2_mark_94 (by decide) ?_
          refine lv_iadd hx hb dX2_mark_95 ?_
          obtain ⟨hz96, hf⟩ := grd_some hf
          refine r_irem hx hb dX2_mark_96 (nz_ne hz96) ?_
          exact g_iret X hr hlk hQ hW dX2_mark_97 hf
        · replace hf := ifn hc1 hf
          by_cases hc2 : v2 = 2
          · replace hf := ifp hc2 hf
            refine lv_tableIn (tgt := 98) hx hb dX2_mark_35 (by rw [hc2]; decide) (by rw [hc2]; decide) (by rw [hc2]; rfl) (by decide) ?_
            refine lv_aload_n hx hb dX2_mark_98 rfl (lv_at hl 0 rfl) ?_
            refine lv_aload_n hx hb dX2_mark_99 rfl (lv_at hl 0 rfl) ?_
            refine gf_X2_31 X hW dX2_mark_100 ?_
            refine lv_iload_n hx hb dX2_mark_103 rfl (lv_at hl 1 rfl) ?_
            refine lv_aload_n hx hb dX2_mark_104 rfl (lv_at hl 0 rfl) ?_
            refine gf_X2_22 X hW dX2_mark_105 ?_
            refine lv_iload_n hx hb dX2_mark_108 rfl (lv_at hl 1 rfl) ?_
            obtain ⟨hi109, hf⟩ := grd_some hf
            refine g_iald X hW iM_kind hi109 dX2_mark_109 ?_
            refine lv_iconst (v := 0) hx hb dX2_mark_110 (by decide) ?_
            obtain ⟨r111, h111, hf⟩ := bR_some hf
            refine g_calliV X hl.1 hZ hA hW (c_X2_sentBy l D cy ad iM_st h111) cw_X2_sentBy ql_X2_138 iO_X2 rfl (by decide) rfl (Nat.le_of_ble_eq_true rfl) dX2_mark_111 (fun H locs hW => ?_)
            refine lv_aload_n hx hb dX2_mark_114 rfl (lv_at hl 0 rfl) ?_
            refine lv_aload_n hx hb dX2_mark_115 rfl (lv_at hl 0 rfl) ?_
            refine gf_X2_31 X hW dX2_mark_116 ?_
            refine lv_iload_n hx hb dX2_mark_119 rfl (lv_at hl 1 rfl) ?_
            refine lv_aload_n hx hb dX2_mark_120 rfl (lv_at hl 0 rfl) ?_
            refine gf_X2_22 X hW dX2_mark_121 ?_
            refine lv_iload_n hx hb dX2_mark_124 rfl (lv_at hl 1 rfl) ?_
            obtain ⟨hi125, hf⟩ := grd_some hf
            refine g_iald X hW iM_kind hi125 dX2_mark_125 ?_
            refine lv_iconst (v := 1) hx hb dX2_mark_126 (by decide) ?_
            obtain ⟨r127, h127, hf⟩ := bR_some hf
            refine g_calliV X hl.1 hZ hA hW (c_X2_sentBy l D cy ad iM_st h127) cw_X2_sentBy ql_X2_138 iO_X2 rfl (by decide) rfl (Nat.le_of_ble_eq_true rfl) dX2_mark_127 (fun H locs hW => ?_)
            refine lv_icmp_ne (tgt := 137) hx hb dX2_mark_130 (by decide) (fun hc => ?_) (fun hc => ?_)
            · replace hf := ifn hc hf
              refine lv_iconst (v := 0) hx hb dX2_mark_137 (by decide) ?_
              exact g_iret X hr hlk hQ hW dX2_mark_138 hf
            · replace hf := ifp hc hf
              refine lv_iconst (v := 1) hx hb dX2_mark_133 (by decide) ?_
              refine lv_goto (tgt := 138) hx hb dX2_mark_134 (by decide) ?_
              exact g_iret X hr hlk hQ hW dX2_mark_138 hf
          · replace hf := ifn hc2 hf
            by_cases hc3 : v2 = 3
            · replace hf := ifp hc3 hf
              refine lv_tableIn (tgt := 139) hx hb dX2_mark_35 (by rw [hc3]; decide) (by rw [hc3]; decide) (by rw [hc3]; rfl) (by decide) ?_
              refine lv_iconst (v := 2) hx hb dX2_mark_139 (by decide) ?_
              refine lv_aload_n hx hb dX2_mark_140 rfl (lv_at hl 0 rfl) ?_
              refine gf_X2_25 X hW dX2_mark_141 ?_
              refine lv_iload_n hx hb dX2_mark_144 rfl (lv_at hl 1 rfl) ?_
              obtain ⟨hi145, hf⟩ := grd_some hf
              refine g_iald X hW iM_size hi145 dX2_mark_145 ?_
              refine lv_imul hx hb dX2_mark_146 ?_
              exact g_iret X hr hlk hQ hW dX2_mark_147 hf
            · replace hf := ifn hc3 hf
              by_cases hc4 : v2 = 4
              · replace hf := ifp hc4 hf
                refine lv_tableIn (tgt := 148) hx hb dX2_mark_35 (by rw [hc4]; decide) (by rw [hc4]; decide) (by rw [hc4]; rfl) (by decide) ?_
                refine lv_aload_n hx hb dX2_mark_148 rfl (lv_at hl 0 rfl) ?_
                refine lv_iload_n hx hb dX2_mark_149 rfl (lv_at hl 1 rfl) ?_
                refine lv_iconst (v := 4) hx hb dX2_mark_150 (by decide) ?_
                obtain ⟨r151, h151, hf⟩ := bR_some hf
                refine g_calliV X hl.1 hZ hA hW (c_X2_sentNow l D cy ad h151) cw_X2_sentNow ql_X2_148 iO_X2 rfl (by decide) rfl (Nat.le_of_ble_eq_true rfl) dX2_mark_151 (fun H locs hW => ?_)
                refine lv_aload_n hx hb dX2_mark_154 rfl (lv_at hl 0 rfl) ?_
                refine lv_iload_n hx hb dX2_mark_155 rfl (lv_at hl 1 rfl) ?_
                refine lv_iconst (v := 1) hx hb dX2_mark_156 (by decide) ?_
                obtain ⟨r157, h157, hf⟩ := bR_some hf
                refine g_calliV X hl.1 hZ hA hW (c_X2_sentNow l D cy ad h157) cw_X2_sentNow ql_X2_148 iO_X2 rfl (by decide) rfl (Nat.le_of_ble_eq_true rfl) dX2_mark_157 (fun H locs hW => ?_)
                refine lv_icmp_eq (tgt := 167) hx hb dX2_mark_160 (by decide) (fun hc => ?_) (fun hc => ?_)
                · replace hf := ifp hc hf
                  refine lv_iconst (v := 0) hx hb dX2_mark_167 (by decide) ?_
                  exact g_iret X hr hlk hQ hW dX2_mark_168 hf
                · replace hf := ifn hc hf
                  refine lv_iconst (v := 1) hx hb dX2_mark_163 (by decide) ?_
                  refine lv_goto (tgt := 168) hx hb dX2_mark_164 (by decide) ?_
                  exact g_iret X hr hlk hQ hW dX2_mark_168 hf
              · replace hf := ifn hc4 hf
                refine lv_tableOut (tgt := 169) hx hb dX2_mark_35 (by have q1 := sw_ne (a := 1) hc1 (by decide); have q2 := sw_ne (a := 2) hc2 (by decide); have q3 := sw_ne (a := 3) hc3 (by decide); have q4 := sw_ne (a := 4) hc4 (by decide); omega) (by decide) ?_
                refine lv_aload_n hx hb dX2_mark_169 rfl (lv_at hl 0 rfl) ?_
                refine lv_iload_n hx hb dX2_mark_170 rfl (lv_at hl 1 rfl) ?_
                refine lv_iconst (v := 5) hx hb dX2_mark_171 (by decide) ?_
                obtain ⟨r172, h172, hf⟩ := bR_some hf
                refine g_calliV X hl.1 hZ hA hW (c_X2_sentNow l D cy ad h172) cw_X2_sentNow ql_X2_148 iO_X2 rfl (by decide) rfl (Nat.le_of_ble_eq_true rfl) dX2_mark_172 (fun H locs hW => ?_)
                refine lv_aload_n hx hb dX2_mark_175 rfl (lv_at hl 0 rfl) ?_
                refine lv_iload_n hx hb dX2_mark_176 rfl (lv_at hl 1 rfl) ?_
                refine lv_iconst (v := 2) hx hb dX2_mark_177 (by decide) ?_
                obtain ⟨r178, h178, hf⟩ := bR_some hf
                refine g_calliV X hl.1 hZ hA hW (c_X2_sentNow l D cy ad h178) cw_X2_sentNow ql_X2_148 iO_X2 rfl (by decide) rfl (Nat.le_of_ble_eq_true rfl) dX2_mark_178 (fun H locs hW => ?_)
                refine lv_icmp_eq (tgt := 188) hx hb dX2_mark_181 (by decide) (fun hc => ?_) (fun hc => ?_)
                · replace hf := ifp hc hf
                  refine lv_iconst (v := 0) hx hb dX2_mark_188 (by decide) ?_
                  exact g_iret X hr hlk hQ hW dX2_mark_189 hf
                · replace hf := ifn hc hf
                  refine lv_iconst (v := 1) hx hb dX2_mark_184 (by decide) ?_
                  refine lv_goto (tgt := 189) hx hb dX2_mark_185 (by decide) ?_
                  exact g_iret X hr hlk hQ hW dX2_mark_189 hf
      · replace hf := ifp hc hf
        refine lv_aload_n hx hb dX2_mark_28 rfl (lv_at hl 0 rfl) ?_
        refine lv_iconst (v := 3) hx hb dX2_mark_29 (by decide) ?_
        obtain ⟨r30, M30, h30, hf⟩ := bI_some hf
        refine g_calliV X hl.1 hZ hA hW (c_X2_found l D cy ad h30) cw_X2_found ql_X2_90 iO_X2 rfl (by decide) rfl (Nat.le_of_ble_eq_true rfl) dX2_mark_30 (fun H locs hW => ?_)
        exact g_iret X hr hlk hQ hW dX2_mark_33 hf
    · replace hf := ifp hc hf
      refine lv_iconst (v := (-1)) hx hb dX2_mark_17 (by decide) ?_
      exact g_iret X hr hlk hQ hW dX2_mark_18 hf

def f_X2_notes (M : Mem) : Option Mem :=
  (bR (f_X2_bring 8 15 10 600 0 (15 * (M.1 0 11)) 15 M) (fun M18 => (lt (sI M18 0 11 ((M18.1 0 11) + 1)) (fun M28 => (some M28)))))
set_option maxHeartbeats 4000000 in
set_option maxRecDepth 100000 in
theorem c_X2_notes (l : Launch) (D : va_G) (cy : Nat → ClassId) (ad : Nat → Nat)    {M M' : Mem} (hf : f_X2_notes M = some M') : MetX l 20 (CM ad cy) D cy ad yX2_notes cX2_notes 1 none 1 [.ref (ad 0)] M (fun A => QV M' 20 (CM ad cy) D cy ad A) := by
  refine MetX.of (own := RX2) (by decide) rfl (Nat.le_of_ble_eq_true rfl) ?_
  intro p e s m below meth c A Q ls X hr hlk hZ hA hQ hW hl
  have hl : lv_has ls 1 [(0, .ref (ad 0))] := hl
  have hx := X.1
  have hb := X.2.1
  obtain ⟨H, hH⟩ : ∃ H, H = s.heap := ⟨_, rfl⟩
  obtain ⟨locs, hlo⟩ : ∃ q : List Loc, q = [] := ⟨_, rfl⟩
  have hW : Wd D 20 ad (CM ad cy) A s.heap M H locs := by rw [hH, hlo]; exact hW
  suffices hh : W p l e (rmD 1) s m ([.ref (ad 0)] : List Value).toArray below meth c H locs 0 0 Q (F0 m 0 ls []) by rw [hH, hlo] at hh; exact hh
  unfold f_X2_notes at hf
  refine lv_aload_n hx hb dX2_notes_0 rfl (lv_at hl 0 rfl) ?_
  refine gf_X2_31 X hW dX2_notes_1 ?_
  refine lv_iconst (v := 0) hx hb dX2_notes_4 (by decide) ?_
  refine lv_aload_n hx hb dX2_notes_5 rfl (lv_at hl 0 rfl) ?_
  refine gf_X2_37 X hW dX2_notes_6 ?_
  refine lv_bipush (v := 15) hx hb dX2_notes_9 (by decide) ?_
  refine lv_aload_n hx hb dX2_notes_11 rfl (lv_at hl 0 rfl) ?_
  refine gf_X2_121 X hW dX2_notes_12 ?_
  refine lv_imul hx hb dX2_notes_15 ?_
  refine lv_bipush (v := 15) hx hb dX2_notes_16 (by decide) ?_
  obtain ⟨M18, h18, hf⟩ := bR_some hf
  refine g_callvS X hl.1 hZ hA hW (c_X2_bring l D cy ad iM_st iM_book h18) cs_X2_bring ql_X2_117 rfl (by decide) rfl (Nat.le_of_ble_eq_true rfl) dX2_notes_18 (fun H locs hW => ?_)
  refine lv_aload_n hx hb dX2_notes_21 rfl (lv_at hl 0 rfl) ?_
  refine lv_dup hx hb dX2_notes_22 rfl ?_
  refine gf_X2_121 X hW dX2_notes_23 ?_
  refine lv_iconst (v := 1) hx hb dX2_notes_26 (by decide) ?_
  refine lv_iadd hx hb dX2_notes_27 ?_
  refine gp_X2_121 X hW dX2_notes_28 (fun H locs hW => ?_)
  obtain ⟨M28, e28, hf⟩ := lt_some hf
  have hW : Wd D 20 ad (CM ad cy) A s.heap M28 H locs := by rw [e28]; exact hW
  exact g_vret X hr hlk hQ hW dX2_notes_31 hf
