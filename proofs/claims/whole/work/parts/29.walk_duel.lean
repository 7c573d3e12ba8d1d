/-! walks, by program out of the listing: 29.walk_duel -/
def f_X1_playOut_L43 (rec : Int32 → Int32 → Int32 → Mem → Option (Int32 × Mem)) (v1_L43 : Int32) (v2_L43 : Int32) (v3_L43 : Int32) (v4_L43 : Int32) : Nat → Int32 → Int32 → Mem → Option (Int32 × Mem)
  | 0, _, _, _ => none
  | n + 1, v5_L43, v6_L43, M_L43 => (if (M_L43.1 15 6) ≤ v6_L43 then (some (v5_L43, M_L43)) else (jn (fun (k77 : Int32 → Option (Int32 × Mem)) => (if v4_L43 = 0 then (k77 (v1_L43 &&& ((shl 1 v6_L43) ^^^ (-1)))) else (k77 (v1_L43 ||| (shl 1 v6_L43))))) (fun (t0_77j : Int32) => (jn (fun (k121 : Int32 → Mem → Option (Int32 × Mem)) => (if t0_77j = v1_L43 then (k121 v5_L43 M_L43) else (bI (rec t0_77j (v2_L43 + 1) v3_L43 M_L43) (fun r92 M92 => (jn (fun (k119 : Int32 → Option (Int32 × Mem)) => (if v4_L43 = 0 then (k119 (mnI v5_L43 r92)) else (k119 (mxI v5_L43 r92)))) (fun (t0_119j : Int32) => (k121 t0_119j M92))))))) (fun (v5_121j : Int32) (M_121j : Mem) => (f_X1_playOut_L43 rec v1_L43 v2_L43 v3_L43 v4_L43 n v5_121j (v6_L43 + 1) M_121j))))))
def f_X1_playOut : Nat → Int32 → Int32 → Int32 → Mem → Option (Int32 × Mem)
  | 0, _, _, _, _ => none
  | nr + 1, v1, v2, v3, M => (jn (fun (k10 : Option (Int32 × Mem)) => (if v3 ≤ v2 then k10 else (if v2 < 3 then (jn (fun (k27 : Int32 → Option (Int32 × Mem)) => (if (irm v2 2) = 0 then (k27 1) else (k27 0))) (fun (t0_27j : Int32) => (bI ((f_X1_playOut nr) v1 (v2 + 1) v3 M) (fun r35 M35 => (f_X1_playOut_L43 (f_X1_playOut nr) v1 v2 v3 t0_27j FU r35 0 M35))))) else k10))) ((bI (f_X1_leftWithEnds v1 M) (fun r12 M12 => (some (r12, M12))))))
set_option maxHeartbeats 4000000 in
set_option maxRecDepth 100000 in
theorem c_X1_playOut (l : Launch) (D : va_G) (cy : Nat → ClassId) (ad : Nat → Nat) : ∀ (nr : Nat) {v1 v2 v3 : Int32} {M M' : Mem} {r : Int32} (hf : f_X1_playOut nr v1 v2 v3 M = some (r, M')), MetX l 43 (CC ad cy) D cy ad yX1_playOut cX1_playOut 9 (some .int) (5 + nr) [.ref (ad 0), .int v1, .int v2, .int v3] M (fun A => QI r M' 43 (CC ad cy) D cy ad A) := by
  intro nr
  induction nr with
  | zero =>
    intro v1 v2 v3 M M' r hf
    cases (show (none : Option (Int32 × Mem)) = some (r, M') from hf)
  | succ nr ihr =>
    intro v1 v2 v3 M M' r hf
    refine MetX.of (own := RX1) (by decide) rfl (Nat.le_of_ble_eq_true rfl) ?_
    intro p e s m below meth c A Q ls X hr hlk hZ hA hQ hW hl
    have hl : lv_has ls 9 [(0, .ref (ad 0)), (1, .int v1), (2, .int v2), (3, .int v3)] := hl
    have hx := X.1
    have hb := X.2.1
    have hL43 : ∀ (v1_L43 : Int32) (v2_L43 : Int32) (v3_L43 : Int32) (v4_L43 : Int32)  (n : Nat) (v5_L43 : Int32) (v6_L43 : Int32) (M_L43 : Mem) (H : Heap) (locs : List Loc) (ls : Array Slot), f_X1_playOut_L43 (f_X1_playOut nr) v1_L43 v2_L43 v3_L43 v4_L43 n v5_L43 v6_L43 M_L43 = some (r, M') → Wd D 43 ad (CC ad cy) A s.heap M_L43 H locs → lv_has ls 9 [(0, .ref (ad 0)), (1, .int v1_L43), (2, .int v2_L43), (3, .int v3_L43), (4, .int v4_L43), (5, .int v5_L43), (6, .int v6_L43)] → W p l e (rmD (5 + (nr + 1))) s m ([.ref (ad 0), .int v1, .int v2, .int v3] : List Value).toArray below meth c H locs 0 0 Q (F0 m 43 ls []) := by
      intro v1_L43 v2_L43 v3_L43 v4_L43 n
      induction n with
      | zero =>
        intro v5_L43 v6_L43 M_L43 H locs ls hf
        cases (show (none : Option (Int32 × Mem)) = some (r, M') from hf)
      | succ n ih =>
        intro v5_L43 v6_L43 M_L43 H locs ls hf hW hl
        rw [f_X1_playOut_L43] at hf
        refine lv_iload hx hb dX1_playOut_43 (lv_at hl 6 rfl) ?_
        refine lv_aload_n hx hb dX1_playOut_45 rfl (lv_at hl 0 rfl) ?_
        refine gf_X1_29 X hW dX1_playOut_46 ?_
        refine gf_X1_108 isSt15 X hW dX1_playOut_49 ?_
        refine lv_icmp_ge (tgt := 127) hx hb dX1_playOut_52 (by decide) (fun hc => ?_) (fun hc => ?_)
        · replace hf := ifp hc hf
          refine lv_iload hx hb dX1_playOut_127 (lv_at hl 5 rfl) ?_
          exact g_iret X hr hlk hQ hW dX1_playOut_129 hf
        · replace hf := ifn hc hf
          refine lv_iload hx hb dX1_playOut_55 (lv_at hl 4 rfl) ?_
          obtain ⟨k77, hk77, hf⟩ := jn_some1 hf
          have hJ77 : ∀ (t0_77j : Int32) (H : Heap) (locs : List Loc) (ls : Array Slot), k77 t0_77j = some (r, M') → Wd D 43 ad (CC ad cy) A s.heap M_L43 H locs → lv_has ls 9 [(0, .ref (ad 0)), (1, .int v1_L43), (2, .int v2_L43), (3, .int v3_L43), (4, .int v4_L43), (5, .int v5_L43), (6, .int v6_L43)] → W p l e (rmD (5 + (nr + 1))) s m ([.ref (ad 0), .int v1, .int v2, .int v3] : List Value).toArray below meth c H locs 0 0 Q (F0 m 77 ls [.int t0_77j]) := by
            intro t0_77j H locs ls hf hW hl
            rw [hk77] at hf
            refine lv_istore (lv' := [(7, .int t0_77j), (0, .ref (ad 0)), (1, .int v1_L43), (2, .int v2_L43), (3, .int v3_L43), (4, .int v4_L43), (5, .int v5_L43), (6, .int v6_L43)]) hx hb dX1_playOut_77 hl (by decide) rfl (fun ls hl => ?_)
            refine lv_iload hx hb dX1_playOut_79 (lv_at hl 0 rfl) ?_
            refine lv_iload_n hx hb dX1_playOut_81 rfl (lv_at hl 2 rfl) ?_
            obtain ⟨k121, hk121, hf⟩ := jn_some2 hf
            have hJ121 : ∀ (v5_121j : Int32) (M_121j : Mem) (H : Heap) (locs : List Loc) (ls : Array Slot), k121 v5_121j M_121j = some (r, M') → Wd D 43 ad (CC ad cy) A s.heap M_121j H locs → lv_has ls 9 [(0, .ref (ad 0)), (1, .int v1_L43), (2, .int v2_L43), (3, .int v3_L43), (4, .int v4_L43), (5, .int v5_121j), (6, .int v6_L43)] → W p l e (rmD (5 + (nr + 1))) s m ([.ref (ad 0), .int v1, .int v2, .int v3] : List Value).toArray below meth c H locs 0 0 Q (F0 m 121 ls []) := by
              intro v5_121j M_121j H locs ls hf hW hl
              rw [hk121] at hf
              refine lv_iinc (v := (v6_L43 + 1)) (lv' := [(6, .int (v6_L43 + 1)), (0, .ref (ad 0)), (1, .int v1_L43), (2, .int v2_L43), (3, .int v3_L43), (4, .int v4_L43), (5, .int v5_121j)]) hx hb dX1_playOut_121 hl (k := 6) rfl rfl (by decide) rfl (fun ls hl => ?_)
              refine lv_goto (tgt := 43) hx hb dX1_playOut_124 (by decide) ?_
              exact ih v5_121j (v6_L43 + 1) M_121j H locs ls hf hW (lv_sub hl [1, 2, 3, 4, 5, 6, 0] rfl)
            refine lv_icmp_eq (tgt := 121) hx hb dX1_playOut_82 (by decide) (fun hc => ?_) (fun hc => ?_)
            · replace hf := ifp hc hf
              exact hJ121 v5_L43 M_L43 H locs ls hf hW (lv_sub hl [1, 2, 3, 4, 5, 6, 7] rfl)
            · replace hf := ifn hc hf
              refine lv_aload_n hx hb dX1_playOut_85 rfl (lv_at hl 1 rfl) ?_
              refine lv_iload hx hb dX1_playOut_86 (lv_at hl 0 rfl) ?_
              refine lv_iload_n hx hb dX1_playOut_88 rfl (lv_at hl 3 rfl) ?_
              refine lv_iconst (v := 1) hx hb dX1_playOut_89 (by decide) ?_
              refine lv_iadd hx hb dX1_playOut_90 ?_
              refine lv_iload_n hx hb dX1_playOut_91 rfl (lv_at hl 4 rfl) ?_
              obtain ⟨r92, M92, h92, hf⟩ := bI_some hf
              refine g_calliV X hl.1 hZ hA hW (ihr h92) cw_X1_playOut ql_X1_210 iO_X1 rfl ⟨by omega, by omega⟩ rfl (Nat.le_of_ble_eq_true rfl) dX1_playOut_92 (fun H locs hW => ?_)
              refine lv_istore (lv' := [(8, .int r92), (7, .int t0_77j), (0, .ref (ad 0)), (1, .int v1_L43), (2, .int v2_L43), (3, .int v3_L43), (4, .int v4_L43), (5, .int v5_L43), (6, .int v6_L43)]) hx hb dX1_playOut_95 hl (by decide) rfl (fun ls hl => ?_)
              refine lv_iload hx hb dX1_playOut_97 (lv_at hl 6 rfl) ?_
              obtain ⟨k119, hk119, hf⟩ := jn_some1 hf
              have hJ119 : ∀ (t0_119j : Int32) (H : Heap) (locs : List Loc) (ls : Array Slot), k119 t0_119j = some (r, M') → Wd D 43 ad (CC ad cy) A s.heap M92 H locs → lv_has ls 9 [(0, .ref (ad 0)), (1, .int v1_L43), (2, .int v2_L43), (3, .int v3_L43), (4, .int v4_L43), (6, .int v6_L43)] → W p l e (rmD (5 + (nr + 1))) s m ([.ref (ad 0), .int v1, .int v2, .int v3] : List Value).toArray below meth c H locs 0 0 Q (F0 m 119 ls [.int t0_119j]) := by
                intro t0_119j H locs ls hf hW hl
                rw [hk119] at hf
                refine lv_istore (lv' := [(5, .int t0_119j), (0, .ref (ad 0)), (1, .int v1_L43), (2, .int v2_L43), (3, .int v3_L43), (4, .int v4_L43), (6, .int v6_L43)]) hx hb dX1_playOut_119 hl (by decide) rfl (fun ls hl => ?_)
                exact hJ121 t0_119j M92 H locs ls hf hW (lv_sub hl [1, 2, 3, 4, 5, 0, 6] rfl)
              refine lv_if_eq (tgt := 112) hx hb dX1_playOut_99 (by decide) (fun hc => ?_) (fun hc => ?_)
              · replace hf := ifp hc hf
                refine lv_iload hx hb dX1_playOut_112 (lv_at hl 7 rfl) ?_
                refine lv_iload hx hb dX1_playOut_114 (lv_at hl 0 rfl) ?_
                refine r_min X hl.1 ql_X1_169 (show 1 ≤ (5 + (nr + 1)) by omega) (show _ ≤ 40 * (5 + (nr + 1)) by first | exact Nat.le_trans (Nat.le_of_ble_eq_true rfl : _ ≤ 40) (by omega)) dX1_playOut_116 ?_
                exact hJ119 (mnI v5_L43 r92) H locs ls hf hW (lv_sub hl [2, 3, 4, 5, 6, 8] rfl)
              · replace hf := ifn hc hf
                refine lv_iload hx hb dX1_playOut_102 (lv_at hl 7 rfl) ?_
                refine lv_iload hx hb dX1_playOut_104 (lv_at hl 0 rfl) ?_
                refine r_max X hl.1 ql_X1_246 (show 1 ≤ (5 + (nr + 1)) by omega) (show _ ≤ 40 * (5 + (nr + 1)) by first | exact Nat.le_trans (Nat.le_of_ble_eq_true rfl : _ ≤ 40) (by omega)) dX1_playOut_106 ?_
                refine lv_goto (tgt := 119) hx hb dX1_playOut_109 (by decide) ?_
                exact hJ119 (mxI v5_L43 r92) H locs ls hf hW (lv_sub hl [2, 3, 4, 5, 6, 8] rfl)
          refine lv_if_eq (tgt := 69) hx hb dX1_playOut_57 (by decide) (fun hc => ?_) (fun hc => ?_)
          · replace hf := ifp hc hf
            refine lv_iload_n hx hb dX1_playOut_69 rfl (lv_at hl 1 rfl) ?_
            refine lv_iconst (v := 1) hx hb dX1_playOut_70 (by decide) ?_
            refine lv_iload hx hb dX1_playOut_71 (lv_at hl 6 rfl) ?_
            refine r_ishl hx hb dX1_playOut_73 ?_
            refine lv_iconst (v := (-1)) hx hb dX1_playOut_74 (by decide) ?_
            refine lv_ixor hx hb dX1_playOut_75 ?_
            refine lv_iand hx hb dX1_playOut_76 ?_
            exact hJ77 (v1_L43 &&& ((shl 1 v6_L43) ^^^ (-1))) H locs ls hf hW (lv_sub hl [0, 1, 2, 3, 4, 5, 6] rfl)
          · replace hf := ifn hc hf
            refine lv_iload_n hx hb dX1_playOut_60 rfl (lv_at hl 1 rfl) ?_
            refine lv_iconst (v := 1) hx hb dX1_playOut_61 (by decide) ?_
            refine lv_iload hx hb dX1_playOut_62 (lv_at hl 6 rfl) ?_
            refine r_ishl hx hb dX1_playOut_64 ?_
            refine lv_ior hx hb dX1_playOut_65 ?_
            refine lv_goto (tgt := 77) hx hb dX1_playOut_66 (by decide) ?_
            exact hJ77 (v1_L43 ||| (shl 1 v6_L43)) H locs ls hf hW (lv_sub hl [0, 1, 2, 3, 4, 5, 6] rfl)
    obtain ⟨H, hH⟩ : ∃ H, H = s.heap := ⟨_, rfl⟩
    obtain ⟨locs, hlo⟩ : ∃ q : List Loc, q = [] := ⟨_, rfl⟩
    have hW : Wd D 43 ad (CC ad cy) A s.heap M H locs := by rw [hH, hlo]; exact hW
    suffices hh : W p l e (rmD (5 + (nr + 1))) s m ([.ref (ad 0), .int v1, .int v2, .int v3] : List Value).toArray below meth c H locs 0 0 Q (F0 m 0 ls []) by rw [hH, hlo] at hh; exact hh
    rw [f_X1_playOut] at hf
    refine lv_iload_n hx hb dX1_playOut_0 rfl (lv_at hl 2 rfl) ?_
    refine lv_iload_n hx hb dX1_playOut_1 rfl (lv_at hl 3 rfl) ?_
    obtain ⟨k10, hk10, hf⟩ := jn_some0 hf
    have hJ10 : ∀  (H : Heap) (locs : List Loc) (ls : Array Slot), k10 = some (r, M') → Wd D 43 ad (CC ad cy) A s.heap M H locs → lv_has ls 9 [(0, .ref (ad 0)), (1, .int v1)] → W p l e (rmD (5 + (nr + 1))) s m ([.ref (ad 0), .int v1, .int v2, .int v3] : List Value).toArray below meth c H locs 0 0 Q (F0 m 10 ls []) := by
      intro  H locs ls hf hW hl
      rw [hk10] at hf
      refine lv_aload_n hx hb dX1_playOut_10 rfl (lv_at hl 0 rfl) ?_
      refine lv_iload_n hx hb dX1_playOut_11 rfl (lv_at hl 1 rfl) ?_
      obtain ⟨r12, M12, h12, hf⟩ := bI_some hf
      refine g_calliV X hl.1 hZ hA hW (c_X1_leftWithEnds l D cy ad h12) cw_X1_leftWithEnds ql_X1_249 iO_X1 rfl ⟨by omega, by omega⟩ rfl (Nat.le_of_ble_eq_true rfl) dX1_playOut_12 (fun H locs hW => ?_)
      exact g_iret X hr hlk hQ hW dX1_playOut_15 hf
    refine lv_icmp_ge (tgt := 10) hx hb dX1_playOut_2 (by decide) (fun hc => ?_) (fun hc => ?_)
    · replace hf := ifp hc hf
      exact hJ10  H locs ls hf hW (lv_sub hl [0, 1] rfl)
    · replace hf := ifn hc hf
      refine lv_iload_n hx hb dX1_playOut_5 rfl (lv_at hl 2 rfl) ?_
      refine lv_iconst (v := 3) hx hb dX1_playOut_6 (by decide) ?_
      refine lv_icmp_lt (tgt := 16) hx hb dX1_playOut_7 (by decide) (fun hc => ?_) (fun hc => ?_)
      · replace hf := ifp hc hf
        refine lv_iload_n hx hb dX1_playOut_16 rfl (lv_at hl 2 rfl) ?_
        refine lv_iconst (v := 2) hx hb dX1_playOut_17 (by decide) ?_
        refine r_irem hx hb dX1_playOut_18 (by decide) ?_
        obtain ⟨k27, hk27, hf⟩ := jn_some1 hf
        have hJ27 : ∀ (t0_27j : Int32) (H : Heap) (locs : List Loc) (ls : Array Slot), k27 t0_27j = some (r, M') → Wd D 43 ad (CC ad cy) A s.heap M H locs → lv_has ls 9 [(0, .ref (ad 0)), (1, .int v1), (2, .int v2), (3, .int v3)] → W p l e (rmD (5 + (nr + 1))) s m ([.ref (ad 0), .int v1, .int v2, .int v3] : List Value).toArray below meth c H locs 0 0 Q (F0 m 27 ls [.int t0_27j]) := by
          intro t0_27j H locs ls hf hW hl
          rw [hk27] at hf
          refine lv_istore (lv' := [(4, .int t0_27j), (0, .ref (ad 0)), (1, .int v1), (2, .int v2), (3, .int v3)]) hx hb dX1_playOut_27 hl (by decide) rfl (fun ls hl => ?_)
          refine lv_aload_n hx hb dX1_playOut_29 rfl (lv_at hl 1 rfl) ?_
          refine lv_iload_n hx hb dX1_playOut_30 rfl (lv_at hl 2 rfl) ?_
          refine lv_iload_n hx hb dX1_playOut_31 rfl (lv_at hl 3 rfl) ?_
          refine lv_iconst (v := 1) hx hb dX1_playOut_32 (by decide) ?_
          refine lv_iadd hx hb dX1_playOut_33 ?_
          refine lv_iload_n hx hb dX1_playOut_34 rfl (lv_at hl 4 rfl) ?_
          obtain ⟨r35, M35, h35, hf⟩ := bI_some hf
          refine g_calliV X hl.1 hZ hA hW (ihr h35) cw_X1_playOut ql_X1_210 iO_X1 rfl ⟨by omega, by omega⟩ rfl (Nat.le_of_ble_eq_true rfl) dX1_playOut_35 (fun H locs hW => ?_)
          refine lv_istore (lv' := [(5, .int r35), (4, .int t0_27j), (0, .ref (ad 0)), (1, .int v1), (2, .int v2), (3, .int v3)]) hx hb dX1_playOut_38 hl (by decide) rfl (fun ls hl => ?_)
          refine lv_iconst (v := 0) hx hb dX1_playOut_40 (by decide) ?_
          refine lv_istore (lv' := [(6, .int 0), (5, .int r35), (4, .int t0_27j), (0, .ref (ad 0)), (1, .int v1), (2, .int v2), (3, .int v3)]) hx hb dX1_playOut_41 hl (by decide) rfl (fun ls hl => ?_)
          exact hL43 v1 v2 v3 t0_27j FU r35 0 M35 H locs ls hf hW (lv_sub hl [3, 4, 5, 6, 2, 1, 0] rfl)
        refine lv_if_ne (tgt := 26) hx hb dX1_playOut_19 (by decide) (fun hc => ?_) (fun hc => ?_)
        · replace hf := ifn hc hf
          refine lv_iconst (v := 0) hx hb dX1_playOut_26 (by decide) ?_
          exact hJ27 0 H locs ls hf hW (lv_sub hl [0, 1, 2, 3] rfl)
        · replace hf := ifp hc hf
          refine lv_iconst (v := 1) hx hb dX1_playOut_22 (by decide) ?_
          refine lv_goto (tgt := 27) hx hb dX1_playOut_23 (by decide) ?_
          exact hJ27 1 H locs ls hf hW (lv_sub hl [0, 1, 2, 3] rfl)
      · replace hf := ifn hc hf
        exact hJ10  H locs ls hf hW (lv_sub hl [0, 1] rfl)

def f_X1_duel (v1 : Int32) (M : Mem) : Option (Int32 × Mem) :=
  (bR (f_X1_isWithin v1 0 3 M) (fun r3 => (if r3 = 0 then (some ((-1), M)) else (if (M.1 15 6) = 0 then (some ((-4), M)) else (bR (f_X0_ends 15 M) (fun r29 => (bI (f_X1_playOut 5 r29 0 v1 M) (fun r34 M34 => (some (r34, M34))))))))))
set_option maxHeartbeats 4000000 in
set_option maxRecDepth 100000 in
theorem c_X1_duel (l : Launch) (D : va_G) (cy : Nat → ClassId) (ad : Nat → Nat)   {v1 : Int32} {M M' : Mem} {r : Int32} (hf : f_X1_duel v1 M = some (r, M')) : MetX l 43 (CC ad cy) D cy ad yX1_duel cX1_duel 2 (some .int) 11 [.ref (ad 0), .int v1] M (fun A => QI r M' 43 (CC ad cy) D cy ad A) := by
  refine MetX.of (own := RX1) (by decide) rfl (Nat.le_of_ble_eq_true rfl) ?_
  intro p e s m below meth c A Q ls X hr hlk hZ hA hQ hW hl
  have hl : lv_has ls 2 [(0, .ref (ad 0)), (1, .int v1)] := hl
  have hx := X.1
  have hb := X.2.1
  obtain ⟨H, hH⟩ : ∃ H, H = s.heap := ⟨_, rfl⟩
  obtain ⟨locs, hlo⟩ : ∃ q : List Loc, q = [] := ⟨_, rfl⟩
  have hW : Wd D 43 ad (CC ad cy) A s.heap M H locs := by rw [hH, hlo]; exact hW
  suffices hh : W p l e (rmD 11) s m ([.ref (ad 0), .int v1] : List Value).toArray below meth c H locs 0 0 Q (F0 m 0 ls []) by rw [hH, hlo] at hh; exact hh
  unfold f_X1_duel at hf
  refine lv_iload_n hx hb dX1_duel_0 rfl (lv_at hl 1 rfl) ?_
  refine lv_iconst (v := 0) hx hb dX1_duel_1 (by decide) ?_
  refine lv_iconst (v := 3) hx hb dX1_duel_2 (by decide) ?_
  obtain ⟨r3, h3, hf⟩ := bR_some hf
  refine g_calliS X hl.1 hZ hA hW (c_X1_isWithin l D cy ad h3) cs_X1_isWithin ql_X1_114 rfl (by decide) rfl (Nat.le_of_ble_eq_true rfl) dX1_duel_3 (fun H locs hW => ?_)
  refine lv_if_ne (tgt := 11) hx hb dX1_duel_6 (by decide) (fun hc => ?_) (fun hc => ?_)
  · replace hf := ifn hc hf
    refine lv_aload_n hx hb dX1_duel_11 rfl (lv_at hl 0 rfl) ?_
    refine gf_X1_29 X hW dX1_duel_12 ?_
    refine gf_X1_108 isSt15 X hW dX1_duel_15 ?_
    refine lv_if_ne (tgt := 24) hx hb dX1_duel_18 (by decide) (fun hc => ?_) (fun hc => ?_)
    · replace hf := ifn hc hf
      refine lv_aload_n hx hb dX1_duel_24 rfl (lv_at hl 0 rfl) ?_
      refine lv_aload_n hx hb dX1_duel_25 rfl (lv_at hl 0 rfl) ?_
      refine gf_X1_29 X hW dX1_duel_26 ?_
      obtain ⟨r29, h29, hf⟩ := bR_some hf
      refine g_calliN (host := "TubeWords") X hl.1 hZ hA hW (c_X0_ends l D cy ad isSt15 h29) cw_X0_ends (by decide +kernel) (iO_st isSt15) rfl (by decide) rfl (Nat.le_of_ble_eq_true rfl) dX1_duel_29 (fun H locs hW => ?_)
      refine lv_iconst (v := 0) hx hb dX1_duel_32 (by decide) ?_
      refine lv_iload_n hx hb dX1_duel_33 rfl (lv_at hl 1 rfl) ?_
      obtain ⟨r34, M34, h34, hf⟩ := bI_some hf
      refine g_calliV X hl.1 hZ hA hW (c_X1_playOut l D cy ad 5 h34) cw_X1_playOut ql_X1_210 iO_X1 rfl (by decide) rfl (Nat.le_of_ble_eq_true rfl) dX1_duel_34 (fun H locs hW => ?_)
      exact g_iret X hr hlk hQ hW dX1_duel_37 hf
    · replace hf := ifp hc hf
      refine lv_bipush (v := (-4)) hx hb dX1_duel_21 (by decide) ?_
      exact g_iret X hr hlk hQ hW dX1_duel_23 hf
  · replace hf := ifp hc hf
    refine lv_iconst (v := (-1)) hx hb dX1_duel_9 (by decide) ?_
    exact g_iret X hr hlk hQ hW dX1_duel_10 hf
