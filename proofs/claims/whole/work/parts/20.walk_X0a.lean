/-! walks, by program out of the listing: 20.walk_X0a -/
def f_X0_kindOf_L2 (v0_L2 : Int32) (M : Mem) : Nat → Int32 → Option Int32
  | 0, _ => none
  | n + 1, v1_L2 => (if 6 ≤ v1_L2 then (some (-1)) else (grd (inb v1_L2 6) (if (lett (ix v1_L2)) = v0_L2 then (some v1_L2) else (f_X0_kindOf_L2 v0_L2 M n (v1_L2 + 1)))))
def f_X0_kindOf (v0 : Int32) (M : Mem) : Option Int32 :=
  (f_X0_kindOf_L2 v0 M FU 0)
set_option maxHeartbeats 4000000 in
set_option maxRecDepth 100000 in
theorem c_X0_kindOf (l : Launch) (D : va_G) (cy : Nat → ClassId) (ad : Nat → Nat)   {v0 : Int32} {M : Mem} {r : Int32} (hf : f_X0_kindOf v0 M = some r) : MetX l 43 (CC ad cy) D cy ad yX0_kindOf cX0_kindOf 2 (some .int) 0 [.int v0] M (fun A => QI r M 43 (CC ad cy) D cy ad A) := by
  refine MetX.of (own := RX0) (by decide) rfl (Nat.le_of_ble_eq_true rfl) ?_
  intro p e s m below meth c A Q ls X hr hlk hZ hA hQ hW hl
  have hl : lv_has ls 2 [(0, .int v0)] := hl
  have hx := X.1
  have hb := X.2.1
  have hL2 : ∀ (v0_L2 : Int32)  (n : Nat) (v1_L2 : Int32) (H : Heap) (locs : List Loc) (ls : Array Slot), f_X0_kindOf_L2 v0_L2 M n v1_L2 = some r → Wd D 43 ad (CC ad cy) A s.heap M H locs → lv_has ls 2 [(0, .int v0_L2), (1, .int v1_L2)] → W p l e (rmD 0) s m ([.int v0] : List Value).toArray below meth c H locs 0 0 Q (F0 m 2 ls []) := by
    intro v0_L2 n
    induction n with
    | zero =>
      intro v1_L2 H locs ls hf
      cases (show (none : Option Int32) = some r from hf)
    | succ n ih =>
      intro v1_L2 H locs ls hf hW hl
      rw [f_X0_kindOf_L2] at hf
      refine lv_iload_n hx hb dX0_kindOf_2 rfl (lv_at hl 1 rfl) ?_
      obtain ⟨tL, hZ1, hZ2⟩ := id hZ
      refine va_getsN hx hb hZ1 hW.2.2 X.2.2.2.1 (va_Nw.use rfl (X.2.2.2.2.2.2.1 (RX0, 45, RX1, "LETTERS", "[B", "TubeWords") (by decide +kernel))) (fun _ h9 => h9) dX0_kindOf_3 ?_
      refine va_tlen hx hb hZ2 hW.2.2 (v := 6) rfl dX0_kindOf_6 ?_
      refine lv_icmp_ge (tgt := 27) hx hb dX0_kindOf_7 (by decide) (fun hc => ?_) (fun hc => ?_)
      · replace hf := ifp hc hf
        refine lv_iconst (v := (-1)) hx hb dX0_kindOf_27 (by decide) ?_
        exact g_iret X hr hlk hQ hW dX0_kindOf_28 (rd_some hf)
      · replace hf := ifn hc hf
        obtain ⟨tL, hZ1, hZ2⟩ := id hZ
        refine va_getsN hx hb hZ1 hW.2.2 X.2.2.2.1 (va_Nw.use rfl (X.2.2.2.2.2.2.1 (RX0, 45, RX1, "LETTERS", "[B", "TubeWords") (by decide +kernel))) (fun _ h9 => h9) dX0_kindOf_10 ?_
        refine lv_iload_n hx hb dX0_kindOf_13 rfl (lv_at hl 1 rfl) ?_
        obtain ⟨hi14, hf⟩ := grd_some hf
        refine va_tb hx hb hZ2 hW.2.2 (inb_in hi14) (v := .int (lett (ix v1_L2))) rfl dX0_kindOf_14 ?_
        refine lv_iload_n hx hb dX0_kindOf_15 rfl (lv_at hl 0 rfl) ?_
        refine lv_icmp_ne (tgt := 21) hx hb dX0_kindOf_16 (by decide) (fun hc => ?_) (fun hc => ?_)
        · replace hf := ifn hc hf
          refine lv_iinc (v := (v1_L2 + 1)) (lv' := [(1, .int (v1_L2 + 1)), (0, .int v0_L2)]) hx hb dX0_kindOf_21 hl (k := 1) rfl rfl (by decide) rfl (fun ls hl => ?_)
          refine lv_goto (tgt := 2) hx hb dX0_kindOf_24 (by decide) ?_
          exact ih (v1_L2 + 1) H locs ls hf hW (lv_sub hl [1, 0] rfl)
        · replace hf := ifp hc hf
          refine lv_iload_n hx hb dX0_kindOf_19 rfl (lv_at hl 1 rfl) ?_
          exact g_iret X hr hlk hQ hW dX0_kindOf_20 (rd_some hf)
  obtain ⟨H, hH⟩ : ∃ H, H = s.heap := ⟨_, rfl⟩
  obtain ⟨locs, hlo⟩ : ∃ q : List Loc, q = [] := ⟨_, rfl⟩
  have hW : Wd D 43 ad (CC ad cy) A s.heap M H locs := by rw [hH, hlo]; exact hW
  suffices hh : W p l e (rmD 0) s m ([.int v0] : List Value).toArray below meth c H locs 0 0 Q (F0 m 0 ls []) by rw [hH, hlo] at hh; exact hh
  unfold f_X0_kindOf at hf
  refine lv_iconst (v := 0) hx hb dX0_kindOf_0 (by decide) ?_
  refine lv_istore_n (lv' := [(1, .int 0), (0, .int v0)]) hx hb dX0_kindOf_1 rfl hl (by decide) rfl (fun ls hl => ?_)
  exact hL2 v0 FU 0 H locs ls hf hW (lv_sub hl [1, 0] rfl)

def f_X0_takeSign (o : Nat) (v1 : Int32) (v2 : Int32) (M : Mem) : Option (Int32 × Mem) :=
  (if v2 = 0 then (bR (f_X0_kindOf v1 M) (fun r5 => (grd (inb (M.1 o 6) 7) (lt (sI M (o + 1) (ix (M.1 o 6)) r5) (fun M18 => (if r5 = (-1) then (some (0, M18)) else (some (1, M18)))))))) else (jn (fun (k42 : Int32 → Option (Int32 × Mem)) => (if v2 = 1 then (k42 50) else (k42 48))) (fun (t0_42j : Int32) => (jn (fun (k77 : Mem → Option (Int32 × Mem)) => (if v2 = 1 then (grd (inb (M.1 o 6) 7) (lt (sI M (o + 2) (ix (M.1 o 6)) (v1 - 48)) (fun M60 => (k77 M60)))) else (grd (inb (M.1 o 6) 7) (lt (sI M (o + 3) (ix (M.1 o 6)) (v1 - 48)) (fun M76 => (k77 M76)))))) (fun  (M_77j : Mem) => (if v1 < t0_42j then (some (0, M_77j)) else (if 57 < v1 then (some (0, M_77j)) else (some (1, M_77j)))))))))
set_option maxHeartbeats 4000000 in
set_option maxRecDepth 100000 in
theorem c_X0_takeSign (l : Launch) (D : va_G) (cy : Nat → ClassId) (ad : Nat → Nat) {o : Nat} (ho : isSt o) {v1 : Int32} {v2 : Int32} {M M' : Mem} {r : Int32} (hf : f_X0_takeSign o v1 v2 M = some (r, M')) : MetX l 43 (CC ad cy) D cy ad yX0_takeSign cX0_takeSign 4 (some .boolean) 1 [.ref (ad o), .int v1, .int v2] M (fun A => QI r M' 43 (CC ad cy) D cy ad A) := by
  refine MetX.of (own := RX0) (by decide) rfl (Nat.le_of_ble_eq_true rfl) ?_
  intro p e s m below meth c A Q ls X hr hlk hZ hA hQ hW hl
  have hl : lv_has ls 4 [(0, .ref (ad o)), (1, .int v1), (2, .int v2)] := hl
  have hx := X.1
  have hb := X.2.1
  obtain ⟨H, hH⟩ : ∃ H, H = s.heap := ⟨_, rfl⟩
  obtain ⟨locs, hlo⟩ : ∃ q : List Loc, q = [] := ⟨_, rfl⟩
  have hW : Wd D 43 ad (CC ad cy) A s.heap M H locs := by rw [hH, hlo]; exact hW
  suffices hh : W p l e (rmD 1) s m ([.ref (ad o), .int v1, .int v2] : List Value).toArray below meth c H locs 0 0 Q (F0 m 0 ls []) by rw [hH, hlo] at hh; exact hh
  unfold f_X0_takeSign at hf
  refine lv_iload_n hx hb dX0_takeSign_0 rfl (lv_at hl 2 rfl) ?_
  refine lv_if_ne (tgt := 30) hx hb dX0_takeSign_1 (by decide) (fun hc => ?_) (fun hc => ?_)
  · replace hf := ifn hc hf
    refine lv_iload_n hx hb dX0_takeSign_30 rfl (lv_at hl 2 rfl) ?_
    refine lv_iconst (v := 1) hx hb dX0_takeSign_31 (by decide) ?_
    obtain ⟨k42, hk42, hf⟩ := jn_some1 hf
    have hJ42 : ∀ (t0_42j : Int32) (H : Heap) (locs : List Loc) (ls : Array Slot), k42 t0_42j = some (r, M') → Wd D 43 ad (CC ad cy) A s.heap M H locs → lv_has ls 4 [(0, .ref (ad o)), (1, .int v1), (2, .int v2)] → W p l e (rmD 1) s m ([.ref (ad o), .int v1, .int v2] : List Value).toArray below meth c H locs 0 0 Q (F0 m 42 ls [.int t0_42j]) := by
      intro t0_42j H locs ls hf hW hl
      rw [hk42] at hf
      refine lv_istore_n (lv' := [(3, .int t0_42j), (0, .ref (ad o)), (1, .int v1), (2, .int v2)]) hx hb dX0_takeSign_42 rfl hl (by decide) rfl (fun ls hl => ?_)
      refine lv_iload_n hx hb dX0_takeSign_43 rfl (lv_at hl 3 rfl) ?_
      refine lv_iconst (v := 1) hx hb dX0_takeSign_44 (by decide) ?_
      obtain ⟨k77, hk77, hf⟩ := jn_some1 hf
      have hJ77 : ∀  (M_77j : Mem) (H : Heap) (locs : List Loc) (ls : Array Slot), k77 M_77j = some (r, M') → Wd D 43 ad (CC ad cy) A s.heap M_77j H locs → lv_has ls 4 [(1, .int v1), (3, .int t0_42j)] → W p l e (rmD 1) s m ([.ref (ad o), .int v1, .int v2] : List Value).toArray below meth c H locs 0 0 Q (F0 m 77 ls []) := by
        intro M_77j H locs ls hf hW hl
        rw [hk77] at hf
        refine lv_iload_n hx hb dX0_takeSign_77 rfl (lv_at hl 0 rfl) ?_
        refine lv_iload_n hx hb dX0_takeSign_78 rfl (lv_at hl 1 rfl) ?_
        refine lv_icmp_lt (tgt := 92) hx hb dX0_takeSign_79 (by decide) (fun hc => ?_) (fun hc => ?_)
        · replace hf := ifp hc hf
          refine lv_iconst (v := 0) hx hb dX0_takeSign_92 (by decide) ?_
          exact g_zret X hr hlk hQ hW dX0_takeSign_93 (by decide) hf
        · replace hf := ifn hc hf
          refine lv_iload_n hx hb dX0_takeSign_82 rfl (lv_at hl 0 rfl) ?_
          refine lv_bipush (v := 57) hx hb dX0_takeSign_83 (by decide) ?_
          refine lv_icmp_gt (tgt := 92) hx hb dX0_takeSign_85 (by decide) (fun hc => ?_) (fun hc => ?_)
          · replace hf := ifp hc hf
            refine lv_iconst (v := 0) hx hb dX0_takeSign_92 (by decide) ?_
            exact g_zret X hr hlk hQ hW dX0_takeSign_93 (by decide) hf
          · replace hf := ifn hc hf
            refine lv_iconst (v := 1) hx hb dX0_takeSign_88 (by decide) ?_
            refine lv_goto (tgt := 93) hx hb dX0_takeSign_89 (by decide) ?_
            exact g_zret X hr hlk hQ hW dX0_takeSign_93 (by decide) hf
      refine lv_icmp_ne (tgt := 64) hx hb dX0_takeSign_45 (by decide) (fun hc => ?_) (fun hc => ?_)
      · replace hf := ifn hc hf
        refine lv_aload_n hx hb dX0_takeSign_64 rfl (lv_at hl 1 rfl) ?_
        refine gf_X0_18 ho X hW dX0_takeSign_65 ?_
        refine lv_aload_n hx hb dX0_takeSign_68 rfl (lv_at hl 1 rfl) ?_
        refine gf_X0_30 ho X hW dX0_takeSign_69 ?_
        refine lv_iload_n hx hb dX0_takeSign_72 rfl (lv_at hl 2 rfl) ?_
        refine lv_bipush (v := 48) hx hb dX0_takeSign_73 (by decide) ?_
        refine lv_isub hx hb dX0_takeSign_75 ?_
        obtain ⟨hi76, hf⟩ := grd_some hf
        refine g_iast X hW (iA_st3 ho) hi76 dX0_takeSign_76 (fun H locs hW => ?_)
        obtain ⟨M76, e76, hf⟩ := lt_some hf
        have hW : Wd D 43 ad (CC ad cy) A s.heap M76 H locs := by rw [e76]; exact hW
        exact hJ77 M76 H locs ls hf hW (lv_sub hl [2, 0] rfl)
      · replace hf := ifp hc hf
        refine lv_aload_n hx hb dX0_takeSign_48 rfl (lv_at hl 1 rfl) ?_
        refine gf_X0_15 ho X hW dX0_takeSign_49 ?_
        refine lv_aload_n hx hb dX0_takeSign_52 rfl (lv_at hl 1 rfl) ?_
        refine gf_X0_30 ho X hW dX0_takeSign_53 ?_
        refine lv_iload_n hx hb dX0_takeSign_56 rfl (lv_at hl 2 rfl) ?_
        refine lv_bipush (v := 48) hx hb dX0_takeSign_57 (by decide) ?_
        refine lv_isub hx hb dX0_takeSign_59 ?_
        obtain ⟨hi60, hf⟩ := grd_some hf
        refine g_iast X hW (iA_st2 ho) hi60 dX0_takeSign_60 (fun H locs hW => ?_)
        obtain ⟨M60, e60, hf⟩ := lt_some hf
        have hW : Wd D 43 ad (CC ad cy) A s.heap M60 H locs := by rw [e60]; exact hW
        refine lv_goto (tgt := 77) hx hb dX0_takeSign_61 (by decide) ?_
        exact hJ77 M60 H locs ls hf hW (lv_sub hl [2, 0] rfl)
    refine lv_icmp_ne (tgt := 40) hx hb dX0_takeSign_32 (by decide) (fun hc => ?_) (fun hc => ?_)
    · replace hf := ifn hc hf
      refine lv_bipush (v := 48) hx hb dX0_takeSign_40 (by decide) ?_
      exact hJ42 48 H locs ls hf hW (lv_sub hl [0, 1, 2] rfl)
    · replace hf := ifp hc hf
      refine lv_bipush (v := 50) hx hb dX0_takeSign_35 (by decide) ?_
      refine lv_goto (tgt := 42) hx hb dX0_takeSign_37 (by decide) ?_
      exact hJ42 50 H locs ls hf hW (lv_sub hl [0, 1, 2] rfl)
  · replace hf := ifp hc hf
    refine lv_iload_n hx hb dX0_takeSign_4 rfl (lv_at hl 1 rfl) ?_
    obtain ⟨r5, h5, hf⟩ := bR_some hf
    refine g_calliS X hl.1 hZ hA hW (c_X0_kindOf l D cy ad h5) cs_X0_kindOf ql_X0_41 rfl (by decide) rfl (Nat.le_of_ble_eq_true rfl) dX0_takeSign_5 (fun H locs hW => ?_)
    refine lv_istore_n (lv' := [(3, .int r5), (0, .ref (ad o)), (1, .int v1), (2, .int v2)]) hx hb dX0_takeSign_8 rfl hl (by decide) rfl (fun ls hl => ?_)
    refine lv_aload_n hx hb dX0_takeSign_9 rfl (lv_at hl 1 rfl) ?_
    refine gf_X0_9 ho X hW dX0_takeSign_10 ?_
    refine lv_aload_n hx hb dX0_takeSign_13 rfl (lv_at hl 1 rfl) ?_
    refine gf_X0_30 ho X hW dX0_takeSign_14 ?_
    refine lv_iload_n hx hb dX0_takeSign_17 rfl (lv_at hl 0 rfl) ?_
    obtain ⟨hi18, hf⟩ := grd_some hf
    refine g_iast X hW (iA_st1 ho) hi18 dX0_takeSign_18 (fun H locs hW => ?_)
    obtain ⟨M18, e18, hf⟩ := lt_some hf
    have hW : Wd D 43 ad (CC ad cy) A s.heap M18 H locs := by rw [e18]; exact hW
    refine lv_iload_n hx hb dX0_takeSign_19 rfl (lv_at hl 0 rfl) ?_
    refine lv_iconst (v := (-1)) hx hb dX0_takeSign_20 (by decide) ?_
    refine lv_icmp_eq (tgt := 28) hx hb dX0_takeSign_21 (by decide) (fun hc => ?_) (fun hc => ?_)
    · replace hf := ifp hc hf
      refine lv_iconst (v := 0) hx hb dX0_takeSign_28 (by decide) ?_
      exact g_zret X hr hlk hQ hW dX0_takeSign_29 (by decide) hf
    · replace hf := ifn hc hf
      refine lv_iconst (v := 1) hx hb dX0_takeSign_24 (by decide) ?_
      refine lv_goto (tgt := 29) hx hb dX0_takeSign_25 (by decide) ?_
      exact g_zret X hr hlk hQ hW dX0_takeSign_29 (by decide) hf

def f_X0_read_L10 (o : Nat) (k1 : Nat) (n1 : Nat) (v2_L10 : Int32) (k99 : Int32 → Mem → Option (Int32 × Mem)) : Nat → Int32 → Int32 → Mem → Option (Int32 × Mem)
  | 0, _, _, _ => none
  | n + 1, v3_L10, v4_L10, M_L10 => (if v2_L10 ≤ v4_L10 then (k99 v3_L10 M_L10) else (if (nI n1) ≤ v4_L10 then (k99 v3_L10 M_L10) else (grd (inb v4_L10 n1) (jn (fun (k43 : Option (Int32 × Mem)) => (jn (fun (k93 : Int32 → Mem → Option (Int32 × Mem)) => (if v3_L10 = 0 then (if (M_L10.1 k1 (ix v4_L10)) = 32 then (k93 v3_L10 M_L10) else k43) else k43)) (fun (v3_93j : Int32) (M_93j : Mem) => (f_X0_read_L10 o k1 n1 v2_L10 k99 n v3_93j (v4_L10 + 1) M_93j)))) ((if (M_L10.1 o 6) = 7 then (some (v4_L10, M_L10)) else (bI (f_X0_takeSign o (M_L10.1 k1 (ix v4_L10)) v3_L10 M_L10) (fun r56 M56 => (if r56 = 0 then (some (v4_L10, M56)) else (jn (fun (k80 : Mem → Option (Int32 × Mem)) => (if v3_L10 = 2 then (lt (sI M56 o 6 ((M56.1 o 6) + 1)) (fun M77 => (k80 M77))) else (k80 M56))) (fun  (M_80j : Mem) => (jn (fun (k92 : Int32 → Option (Int32 × Mem)) => (if v3_L10 = 2 then (k92 0) else (k92 (v3_L10 + 1)))) (fun (t0_92j : Int32) => (f_X0_read_L10 o k1 n1 v2_L10 k99 n t0_92j (v4_L10 + 1) M_80j))))))))))))))
def f_X0_read (o : Nat) (k1 : Nat) (n1 : Nat) (v2 : Int32) (M : Mem) : Option (Int32 × Mem) :=
  (lt (sI M o 6 0) (fun M2 => (jn (fun (k99 : Int32 → Mem → Option (Int32 × Mem)) => (f_X0_read_L10 o k1 n1 v2 k99 FU 0 0 M2)) (fun (v3_99x : Int32) (M_99x : Mem) => (if v3_99x = 0 then (if (M_99x.1 o 6) < 2 then (some (v2, M_99x)) else (some ((-9), M_99x))) else (some (v2, M_99x)))))))
set_option maxHeartbeats 4000000 in
set_option maxRecDepth 100000 in
theorem c_X0_read (l : Launch) (D : va_G) (cy : Nat → ClassId) (ad : Nat → Nat) {o : Nat} {k1 : Nat} {n1 : Nat} (ho : isSt o) (hA1 : isA (CC ad cy) 43 k1 (cy 1) n1) {v2 : Int32} {M M' : Mem} {r : Int32} (hf : f_X0_read o k1 n1 v2 M = some (r, M')) : MetX l 43 (CC ad cy) D cy ad yX0_read cX0_read 6 (some .int) 2 [.ref (ad o), .ref (ad k1), .int v2] M (fun A => QI r M' 43 (CC ad cy) D cy ad A) := by
  refine MetX.of (own := RX0) (by decide) rfl (Nat.le_of_ble_eq_true rfl) ?_
  intro p e s m below meth c A Q ls X hr hlk hZ hA hQ hW hl
  have hl : lv_has ls 6 [(0, .ref (ad o)), (1, .ref (ad k1)), (2, .int v2)] := hl
  have hx := X.1
  have hb := X.2.1
  have hL10 : ∀ (v2_L10 : Int32) (k99 : Int32 → Mem → Option (Int32 × Mem)) (hJ99 : ∀ (v3_99x : Int32) (M_99x : Mem) (H : Heap) (locs : List Loc) (ls : Array Slot), k99 v3_99x M_99x = some (r, M') → Wd D 43 ad (CC ad cy) A s.heap M_99x H locs → lv_has ls 6 [(0, .ref (ad o)), (2, .int v2_L10), (3, .int v3_99x)] → W p l e (rmD 2) s m ([.ref (ad o), .ref (ad k1), .int v2] : List Value).toArray below meth c H locs 0 0 Q (F0 m 99 ls [])) (n : Nat) (v3_L10 : Int32) (v4_L10 : Int32) (M_L10 : Mem) (H : Heap) (locs : List Loc) (ls : Array Slot), f_X0_read_L10 o k1 n1 v2_L10 k99 n v3_L10 v4_L10 M_L10 = some (r, M') → Wd D 43 ad (CC ad cy) A s.heap M_L10 H locs → lv_has ls 6 [(0, .ref (ad o)), (1, .ref (ad k1)), (2, .int v2_L10), (3, .int v3_L10), (4, .int v4_L10)] → W p l e (rmD 2) s m ([.ref (ad o), .ref (ad k1), .int v2] : List Value).toArray below meth c H locs 0 0 Q (F0 m 10 ls []) := by
    intro v2_L10 k99 hJ99 n
    induction n with
    | zero =>
      intro v3_L10 v4_L10 M_L10 H locs ls hf
      cases (show (none : Option (Int32 × Mem)) = some (r, M') from hf)
    | succ n ih =>
      intro v3_L10 v4_L10 M_L10 H locs ls hf hW hl
      rw [f_X0_read_L10] at hf
      refine lv_iload hx hb dX0_read_10 (lv_at hl 4 rfl) ?_
      refine lv_iload_n hx hb dX0_read_12 rfl (lv_at hl 2 rfl) ?_
      refine lv_icmp_ge (tgt := 99) hx hb dX0_read_13 (by decide) (fun hc => ?_) (fun hc => ?_)
      · replace hf := ifp hc hf
        exact hJ99 v3_L10 M_L10 H locs ls hf hW (lv_sub hl [0, 2, 3] rfl)
      · replace hf := ifn hc hf
        refine lv_iload hx hb dX0_read_16 (lv_at hl 4 rfl) ?_
        refine lv_aload_n hx hb dX0_read_18 rfl (lv_at hl 1 rfl) ?_
        refine g_alen X hW (t0 := 1) hA1 rfl dX0_read_19 ?_
        refine lv_icmp_ge (tgt := 99) hx hb dX0_read_20 (by decide) (fun hc => ?_) (fun hc => ?_)
        · replace hf := ifp hc hf
          exact hJ99 v3_L10 M_L10 H locs ls hf hW (lv_sub hl [0, 2, 3] rfl)
        · replace hf := ifn hc hf
          refine lv_aload_n hx hb dX0_read_23 rfl (lv_at hl 1 rfl) ?_
          refine lv_iload hx hb dX0_read_24 (lv_at hl 4 rfl) ?_
          obtain ⟨hi26, hf⟩ := grd_some hf
          refine g_bald X hW hA1 hi26 dX0_read_26 ?_
          refine lv_istore (lv' := [(5, .int (M_L10.1 k1 (ix v4_L10))), (0, .ref (ad o)), (1, .ref (ad k1)), (2, .int v2_L10), (3, .int v3_L10), (4, .int v4_L10)]) hx hb dX0_read_27 hl (by decide) rfl (fun ls hl => ?_)
          refine lv_iload_n hx hb dX0_read_29 rfl (lv_at hl 4 rfl) ?_
          obtain ⟨k43, hk43, hf⟩ := jn_some0 hf
          have hJ43 : ∀  (H : Heap) (locs : List Loc) (ls : Array Slot), k43 = some (r, M') → Wd D 43 ad (CC ad cy) A s.heap M_L10 H locs → lv_has ls 6 [(0, .ref (ad o)), (1, .ref (ad k1)), (2, .int v2_L10), (3, .int v3_L10), (4, .int v4_L10), (5, .int (M_L10.1 k1 (ix v4_L10)))] → W p l e (rmD 2) s m ([.ref (ad o), .ref (ad k1), .int v2] : List Value).toArray below meth c H locs 0 0 Q (F0 m 43 ls []) := by
            intro  H locs ls hf hW hl
            rw [hk43] at hf
            refine lv_aload_n hx hb dX0_read_43 rfl (lv_at hl 0 rfl) ?_
            refine gf_X0_30 ho X hW dX0_read_44 ?_
            refine lv_bipush (v := 7) hx hb dX0_read_47 (by decide) ?_
            refine lv_icmp_eq (tgt := 62) hx hb dX0_read_49 (by decide) (fun hc => ?_) (fun hc => ?_)
            · replace hf := ifp hc hf
              refine lv_iload hx hb dX0_read_62 (lv_at hl 4 rfl) ?_
              exact g_iret X hr hlk hQ hW dX0_read_64 hf
            · replace hf := ifn hc hf
              refine lv_aload_n hx hb dX0_read_52 rfl (lv_at hl 0 rfl) ?_
              refine lv_iload hx hb dX0_read_53 (lv_at hl 5 rfl) ?_
              refine lv_iload_n hx hb dX0_read_55 rfl (lv_at hl 3 rfl) ?_
              obtain ⟨r56, M56, h56, hf⟩ := bI_some hf
              refine g_calliV X hl.1 hZ hA hW (c_X0_takeSign l D cy ad ho h56) cw_X0_takeSign ql_X0_37 (iO_st ho) rfl (by decide) rfl (Nat.le_of_ble_eq_true rfl) dX0_read_56 (fun H locs hW => ?_)
              refine lv_if_ne (tgt := 65) hx hb dX0_read_59 (by decide) (fun hc => ?_) (fun hc => ?_)
              · replace hf := ifn hc hf
                refine lv_iload_n hx hb dX0_read_65 rfl (lv_at hl 3 rfl) ?_
                refine lv_iconst (v := 2) hx hb dX0_read_66 (by decide) ?_
                obtain ⟨k80, hk80, hf⟩ := jn_some1 hf
                have hJ80 : ∀  (M_80j : Mem) (H : Heap) (locs : List Loc) (ls : Array Slot), k80 M_80j = some (r, M') → Wd D 43 ad (CC ad cy) A s.heap M_80j H locs → lv_has ls 6 [(0, .ref (ad o)), (1, .ref (ad k1)), (2, .int v2_L10), (3, .int v3_L10), (4, .int v4_L10)] → W p l e (rmD 2) s m ([.ref (ad o), .ref (ad k1), .int v2] : List Value).toArray below meth c H locs 0 0 Q (F0 m 80 ls []) := by
                  intro M_80j H locs ls hf hW hl
                  rw [hk80] at hf
                  refine lv_iload_n hx hb dX0_read_80 rfl (lv_at hl 3 rfl) ?_
                  refine lv_iconst (v := 2) hx hb dX0_read_81 (by decide) ?_
                  obtain ⟨k92, hk92, hf⟩ := jn_some1 hf
                  have hJ92 : ∀ (t0_92j : Int32) (H : Heap) (locs : List Loc) (ls : Array Slot), k92 t0_92j = some (r, M') → Wd D 43 ad (CC ad cy) A s.heap M_80j H locs → lv_has ls 6 [(0, .ref (ad o)), (1, .ref (ad k1)), (2, .int v2_L10), (4, .int v4_L10)] → W p l e (rmD 2) s m ([.ref (ad o), .ref (ad k1), .int v2] : List Value).toArray below meth c H locs 0 0 Q (F0 m 92 ls [.int t0_92j]) := by
                    intro t0_92j H locs ls hf hW hl
                    rw [hk92] at hf
                    refine lv_istore_n (lv' := [(3, .int t0_92j), (0, .ref (ad o)), (1, .ref (ad k1)), (2, .int v2_L10), (4, .int v4_L10)]) hx hb dX0_read_92 rfl hl (by decide) rfl (fun ls hl => ?_)
                    refine lv_iinc (v := (v4_L10 + 1)) (lv' := [(4, .int (v4_L10 + 1)), (3, .int t0_92j), (0, .ref (ad o)), (1, .ref (ad k1)), (2, .int v2_L10)]) hx hb dX0_read_93 hl (k := 4) rfl rfl (by decide) rfl (fun ls hl => ?_)
                    refine lv_goto (tgt := 10) hx hb dX0_read_96 (by decide) ?_
                    exact ih t0_92j (v4_L10 + 1) M_80j H locs ls hf hW (lv_sub hl [2, 3, 4, 1, 0] rfl)
                  refine lv_icmp_ne (tgt := 89) hx hb dX0_read_82 (by decide) (fun hc => ?_) (fun hc => ?_)
                  · replace hf := ifn hc hf
                    refine lv_iload_n hx hb dX0_read_89 rfl (lv_at hl 3 rfl) ?_
                    refine lv_iconst (v := 1) hx hb dX0_read_90 (by decide) ?_
                    refine lv_iadd hx hb dX0_read_91 ?_
                    exact hJ92 (v3_L10 + 1) H locs ls hf hW (lv_sub hl [0, 1, 2, 4] rfl)
                  · replace hf := ifp hc hf
                    refine lv_iconst (v := 0) hx hb dX0_read_85 (by decide) ?_
                    refine lv_goto (tgt := 92) hx hb dX0_read_86 (by decide) ?_
                    exact hJ92 0 H locs ls hf hW (lv_sub hl [0, 1, 2, 4] rfl)
                refine lv_icmp_ne (tgt := 80) hx hb dX0_read_67 (by decide) (fun hc => ?_) (fun hc => ?_)
                · replace hf := ifn hc hf
                  exact hJ80 M56 H locs ls hf hW (lv_sub hl [0, 1, 2, 3, 4] rfl)
                · replace hf := ifp hc hf
                  refine lv_aload_n hx hb dX0_read_70 rfl (lv_at hl 0 rfl) ?_
                  refine lv_dup hx hb dX0_read_71 rfl ?_
                  refine gf_X0_30 ho X hW dX0_read_72 ?_
                  refine lv_iconst (v := 1) hx hb dX0_read_75 (by decide) ?_
                  refine lv_iadd hx hb dX0_read_76 ?_
                  refine gp_X0_30 ho X hW dX0_read_77 (fun H locs hW => ?_)
                  obtain ⟨M77, e77, hf⟩ := lt_some hf
                  have hW : Wd D 43 ad (CC ad cy) A s.heap M77 H locs := by rw [e77]; exact hW
                  exact hJ80 M77 H locs ls hf hW (lv_sub hl [0, 1, 2, 3, 4] rfl)
              · replace hf := ifp hc hf
                refine lv_iload hx hb dX0_read_62 (lv_at hl 4 rfl) ?_
                exact g_iret X hr hlk hQ hW dX0_read_64 hf
          obtain ⟨k93, hk93, hf⟩ := jn_some2 hf
          have hJ93 : ∀ (v3_93j : Int32) (M_93j : Mem) (H : Heap) (locs : List Loc) (ls : Array Slot), k93 v3_93j M_93j = some (r, M') → Wd D 43 ad (CC ad cy) A s.heap M_93j H locs → lv_has ls 6 [(0, .ref (ad o)), (1, .ref (ad k1)), (2, .int v2_L10), (3, .int v3_93j), (4, .int v4_L10)] → W p l e (rmD 2) s m ([.ref (ad o), .ref (ad k1), .int v2] : List Value).toArray below meth c H locs 0 0 Q (F0 m 93 ls []) := by
            intro v3_93j M_93j H locs ls hf hW hl
            rw [hk93] at hf
            refine lv_iinc (v := (v4_L10 + 1)) (lv' := [(4, .int (v4_L10 + 1)), (0, .ref (ad o)), (1, .ref (ad k1)), (2, .int v2_L10), (3, .int v3_93j)]) hx hb dX0_read_93 hl (k := 4) rfl rfl (by decide) rfl (fun ls hl => ?_)
            refine lv_goto (tgt := 10) hx hb dX0_read_96 (by decide) ?_
            exact ih v3_93j (v4_L10 + 1) M_93j H locs ls hf hW (lv_sub hl [1, 2, 3, 4, 0] rfl)
          refine lv_if_ne (tgt := 43) hx hb dX0_read_30 (by decide) (fun hc => ?_) (fun hc => ?_)
          · replace hf := ifn hc hf
            exact hJ43  H locs ls hf hW (lv_sub hl [1, 2, 3, 4, 5, 0] rfl)
          · replace hf := ifp hc hf
            refine lv_iload hx hb dX0_read_33 (lv_at hl 0 rfl) ?_
            refine lv_bipush (v := 32) hx hb dX0_read_35 (by decide) ?_
            refine lv_icmp_ne (tgt := 43) hx hb dX0_read_37 (by decide) (fun hc => ?_) (fun hc => ?_)
            · replace hf := ifn hc hf
              exact hJ43  H locs ls hf hW (lv_sub hl [1, 2, 3, 4, 5, 0] rfl)
            · replace hf := ifp hc hf
              refine lv_goto (tgt := 93) hx hb dX0_read_40 (by decide) ?_
              exact hJ93 v3_L10 M_L10 H locs ls hf hW (lv_sub hl [1, 2, 3, 4, 5] rfl)
  obtain ⟨H, hH⟩ : ∃ H, H = s.heap := ⟨_, rfl⟩
  obtain ⟨locs, hlo⟩ : ∃ q : List Loc, q = [] := ⟨_, rfl⟩
  have hW : Wd D 43 ad (CC ad cy) A s.heap M H locs := by rw [hH, hlo]; exact hW
  suffices hh : W p l e (rmD 2) s m ([.ref (ad o), .ref (ad k1), .int v2] : List Value).toArray below meth c H locs 0 0 Q (F0 m 0 ls []) by rw [hH, hlo] at hh; exact hh
  unfold f_X0_read at hf
  refine lv_aload_n hx hb dX0_read_0 rfl (lv_at hl 0 rfl) ?_
  refine lv_iconst (v := 0) hx hb dX0_read_1 (by decide) ?_
  refine gp_X0_30 ho X hW dX0_read_2 (fun H locs hW => ?_)
  obtain ⟨M2, e2, hf⟩ := lt_some hf
  have hW : Wd D 43 ad (CC ad cy) A s.heap M2 H locs := by rw [e2]; exact hW
  refine lv_iconst (v := 0) hx hb dX0_read_5 (by decide) ?_
  refine lv_istore_n (lv' := [(3, .int 0), (0, .ref (ad o)), (1, .ref (ad k1)), (2, .int v2)]) hx hb dX0_read_6 rfl hl (by decide) rfl (fun ls hl => ?_)
  refine lv_iconst (v := 0) hx hb dX0_read_7 (by decide) ?_
  refine lv_istore (lv' := [(4, .int 0), (3, .int 0), (0, .ref (ad o)), (1, .ref (ad k1)), (2, .int v2)]) hx hb dX0_read_8 hl (by decide) rfl (fun ls hl => ?_)
  obtain ⟨k99, hk99, hf⟩ := jn_some2 hf
  have hJ99 : ∀ (v3_99x : Int32) (M_99x : Mem) (H : Heap) (locs : List Loc) (ls : Array Slot), k99 v3_99x M_99x = some (r, M') → Wd D 43 ad (CC ad cy) A s.heap M_99x H locs → lv_has ls 6 [(0, .ref (ad o)), (2, .int v2), (3, .int v3_99x)] → W p l e (rmD 2) s m ([.ref (ad o), .ref (ad k1), .int v2] : List Value).toArray below meth c H locs 0 0 Q (F0 m 99 ls []) := by
    intro v3_99x M_99x H locs ls hf hW hl
    rw [hk99] at hf
    refine lv_iload_n hx hb dX0_read_99 rfl (lv_at hl 2 rfl) ?_
    refine lv_if_ne (tgt := 116) hx hb dX0_read_100 (by decide) (fun hc => ?_) (fun hc => ?_)
    · replace hf := ifn hc hf
      refine lv_iload_n hx hb dX0_read_116 rfl (lv_at hl 1 rfl) ?_
      exact g_iret X hr hlk hQ hW dX0_read_117 hf
    · replace hf := ifp hc hf
      refine lv_aload_n hx hb dX0_read_103 rfl (lv_at hl 0 rfl) ?_
      refine gf_X0_30 ho X hW dX0_read_104 ?_
      refine lv_iconst (v := 2) hx hb dX0_read_107 (by decide) ?_
      refine lv_icmp_lt (tgt := 116) hx hb dX0_read_108 (by decide) (fun hc => ?_) (fun hc => ?_)
      · replace hf := ifp hc hf
        refine lv_iload_n hx hb dX0_read_116 rfl (lv_at hl 1 rfl) ?_
        exact g_iret X hr hlk hQ hW dX0_read_117 hf
      · replace hf := ifn hc hf
        refine lv_bipush (v := (-9)) hx hb dX0_read_111 (by decide) ?_
        refine lv_goto (tgt := 117) hx hb dX0_read_113 (by decide) ?_
        exact g_iret X hr hlk hQ hW dX0_read_117 hf
  exact hL10 v2 k99 hJ99 FU 0 0 M2 H locs ls hf hW (lv_sub hl [2, 3, 4, 1, 0] rfl)

def f_X0_beginAnew_L2 (o : Nat) (k28 : Mem → Option Mem) : Nat → Int32 → Mem → Option Mem
  | 0, _, _ => none
  | n + 1, v1_L2, M_L2 => (if 7 ≤ v1_L2 then (k28 M_L2) else (grd (inb v1_L2 7) (lt (sI M_L2 (o + 4) (ix v1_L2) 0) (fun M14 => (grd (inb v1_L2 7) (lt (sI M14 (o + 5) (ix v1_L2) v1_L2) (fun M21 => (f_X0_beginAnew_L2 o k28 n (v1_L2 + 1) M21))))))))
def f_X0_beginAnew (o : Nat) (M : Mem) : Option Mem :=
  (jn (fun (k28 : Mem → Option Mem) => (f_X0_beginAnew_L2 o k28 FU 0 M)) (fun  (M_28x : Mem) => (lt (sI M_28x o 7 0) (fun M30 => (some M30)))))
set_option maxHeartbeats 4000000 in
set_option maxRecDepth 100000 in
theorem c_X0_beginAnew (l : Launch) (D : va_G) (cy : Nat → ClassId) (ad : Nat → Nat) {o : Nat} (ho : isSt o)  {M M' : Mem} (hf : f_X0_beginAnew o M = some M') : MetX l 43 (CC ad cy) D cy ad yX0_beginAnew cX0_beginAnew 2 none 0 [.ref (ad o)] M (fun A => QV M' 43 (CC ad cy) D cy ad A) := by
  refine MetX.of (own := RX0) (by decide) rfl (Nat.le_of_ble_eq_true rfl) ?_
  intro p e s m below meth c A Q ls X hr hlk hZ hA hQ hW hl
  have hl : lv_has ls 2 [(0, .ref (ad o))] := hl
  have hx := X.1
  have hb := X.2.1
  have hL2 : ∀  (k28 : Mem → Option Mem) (hJ28 : ∀  (M_28x : Mem) (H : Heap) (locs : List Loc) (ls : Array Slot), k28 M_28x = some M' → Wd D 43 ad (CC ad cy) A s.heap M_28x H locs → lv_has ls 2 [(0, .ref (ad o))] → W p l e (rmD 0) s m ([.ref (ad o)] : List Value).toArray below meth c H locs 0 0 Q (F0 m 28 ls [])) (n : Nat) (v1_L2 : Int32) (M_L2 : Mem) (H : Heap) (locs : List Loc) (ls : Array Slot), f_X0_beginAnew_L2 o k28 n v1_L2 M_L2 = some M' → Wd D 43 ad (CC ad cy) A s.heap M_L2 H locs → lv_has ls 2 [(0, .ref (ad o)), (1, .int v1_L2)] → W p l e (rmD 0) s m ([.ref (ad o)] : List Value).toArray below meth c H locs 0 0 Q (F0 m 2 ls []) := by
    intro k28 hJ28 n
    induction n with
    | zero =>
      intro v1_L2 M_L2 H locs ls hf
      cases (show (none : Option Mem) = some M' from hf)
    | succ n ih =>
      intro v1_L2 M_L2 H locs ls hf hW hl
      rw [f_X0_beginAnew_L2] at hf
      refine lv_iload_n hx hb dX0_beginAnew_2 rfl (lv_at hl 1 rfl) ?_
      refine lv_bipush (v := 7) hx hb dX0_beginAnew_3 (by decide) ?_
      refine lv_icmp_ge (tgt := 28) hx hb dX0_beginAnew_5 (by decide) (fun hc => ?_) (fun hc => ?_)
      · replace hf := ifp hc hf
        exact hJ28 M_L2 H locs ls hf hW (lv_sub hl [0] rfl)
      · replace hf := ifn hc hf
        refine lv_aload_n hx hb dX0_beginAnew_8 rfl (lv_at hl 0 rfl) ?_
        refine gf_X0_21 ho X hW dX0_beginAnew_9 ?_
        refine lv_iload_n hx hb dX0_beginAnew_12 rfl (lv_at hl 1 rfl) ?_
        refine lv_iconst (v := 0) hx hb dX0_beginAnew_13 (by decide) ?_
        obtain ⟨hi14, hf⟩ := grd_some hf
        refine g_iast X hW (iA_st4 ho) hi14 dX0_beginAnew_14 (fun H locs hW => ?_)
        obtain ⟨M14, e14, hf⟩ := lt_some hf
        have hW : Wd D 43 ad (CC ad cy) A s.heap M14 H locs := by rw [e14]; exact hW
        refine lv_aload_n hx hb dX0_beginAnew_15 rfl (lv_at hl 0 rfl) ?_
        refine gf_X0_24 ho X hW dX0_beginAnew_16 ?_
        refine lv_iload_n hx hb dX0_beginAnew_19 rfl (lv_at hl 1 rfl) ?_
        refine lv_iload_n hx hb dX0_beginAnew_20 rfl (lv_at hl 1 rfl) ?_
        obtain ⟨hi21, hf⟩ := grd_some hf
        refine g_iast X hW (iA_st5 ho) hi21 dX0_beginAnew_21 (fun H locs hW => ?_)
        obtain ⟨M21, e21, hf⟩ := lt_some hf
        have hW : Wd D 43 ad (CC ad cy) A s.heap M21 H locs := by rw [e21]; exact hW
        refine lv_iinc (v := (v1_L2 + 1)) (lv' := [(1, .int (v1_L2 + 1)), (0, .ref (ad o))]) hx hb dX0_beginAnew_22 hl (k := 1) rfl rfl (by decide) rfl (fun ls hl => ?_)
        refine lv_goto (tgt := 2) hx hb dX0_beginAnew_25 (by decide) ?_
        exact ih (v1_L2 + 1) M21 H locs ls hf hW (lv_sub hl [1, 0] rfl)
  obtain ⟨H, hH⟩ : ∃ H, H = s.heap := ⟨_, rfl⟩
  obtain ⟨locs, hlo⟩ : ∃ q : List Loc, q = [] := ⟨_, rfl⟩
  have hW : Wd D 43 ad (CC ad cy) A s.heap M H locs := by rw [hH, hlo]; exact hW
  suffices hh : W p l e (rmD 0) s m ([.ref (ad o)] : List Value).toArray below meth c H locs 0 0 Q (F0 m 0 ls []) by rw [hH, hlo] at hh; exact hh
  unfold f_X0_beginAnew at hf
  refine lv_iconst (v := 0) hx hb dX0_beginAnew_0 (by decide) ?_
  refine lv_istore_n (lv' := [(1, .int 0), (0, .ref (ad o))]) hx hb dX0_beginAnew_1 rfl hl (by decide) rfl (fun ls hl => ?_)
  obtain ⟨k28, hk28, hf⟩ := jn_some1 hf
  have hJ28 : ∀  (M_28x : Mem) (H : Heap) (locs : List Loc) (ls : Array Slot), k28 M_28x = some M' → Wd D 43 ad (CC ad cy) A s.heap M_28x H locs → lv_has ls 2 [(0, .ref (ad o))] → W p l e (rmD 0) s m ([.ref (ad o)] : List Value).toArray below meth c H locs 0 0 Q (F0 m 28 ls []) := by
    intro M_28x H locs ls hf hW hl
    rw [hk28] at hf
    refine lv_aload_n hx hb dX0_beginAnew_28 rfl (lv_at hl 0 rfl) ?_
    refine lv_iconst (v := 0) hx hb dX0_beginAnew_29 (by decide) ?_
    refine gp_X0_34 ho X hW dX0_beginAnew_30 (fun H locs hW => ?_)
    obtain ⟨M30, e30, hf⟩ := lt_some hf
    have hW : Wd D 43 ad (CC ad cy) A s.heap M30 H locs := by rw [e30]; exact hW
    exact g_vret X hr hlk hQ hW dX0_beginAnew_33 hf
  exact hL2 k28 hJ28 FU 0 M H locs ls hf hW (lv_sub hl [1, 0] rfl)

def f_X0_takeFrom (o : Nat) (o1 : Nat) (M : Mem) : Option Mem :=
  (grd (cpk 0 0 7 7 7) (lt (sA M (o + 1) (va_cpy (M.1 (o1 + 1)) (M.1 (o + 1)) (ix 0) (ix 0) (ix 7))) (fun M12 => (grd (cpk 0 0 7 7 7) (lt (sA M12 (o + 2) (va_cpy (M12.1 (o1 + 2)) (M12.1 (o + 2)) (ix 0) (ix 0) (ix 7))) (fun M27 => (grd (cpk 0 0 7 7 7) (lt (sA M27 (o + 3) (va_cpy (M27.1 (o1 + 3)) (M27.1 (o + 3)) (ix 0) (ix 0) (ix 7))) (fun M42 => (grd (cpk 0 0 7 7 7) (lt (sA M42 (o + 4) (va_cpy (M42.1 (o1 + 4)) (M42.1 (o + 4)) (ix 0) (ix 0) (ix 7))) (fun M57 => (grd (cpk 0 0 7 7 7) (lt (sA M57 (o + 5) (va_cpy (M57.1 (o1 + 5)) (M57.1 (o + 5)) (ix 0) (ix 0) (ix 7))) (fun M72 => (lt (sI M72 o 6 (M72.1 o1 6)) (fun M80 => (lt (sI M80 o 7 (M80.1 o1 7)) (fun M88 => (some M88))))))))))))))))))))
set_option maxHeartbeats 4000000 in
set_option maxRecDepth 100000 in
theorem c_X0_takeFrom (l : Launch) (D : va_G) (cy : Nat → ClassId) (ad : Nat → Nat) {o : Nat} {o1 : Nat} (ho : isSt o) (ho1 : isSt o1)  {M M' : Mem} (hf : f_X0_takeFrom o o1 M = some M') : MetX l 43 (CC ad cy) D cy ad yX0_takeFrom cX0_takeFrom 2 none 1 [.ref (ad o), .ref (ad o1)] M (fun A => QV M' 43 (CC ad cy) D cy ad A) := by
  refine MetX.of (own := RX0) (by decide) rfl (Nat.le_of_ble_eq_true rfl) ?_
  intro p e s m below meth c A Q ls X hr hlk hZ hA hQ hW hl
  have hl : lv_has ls 2 [(0, .ref (ad o)), (1, .ref (ad o1))] := hl
  have hx := X.1
  have hb := X.2.1
  obtain ⟨H, hH⟩ : ∃ H, H = s.heap := ⟨_, rfl⟩
  obtain ⟨locs, hlo⟩ : ∃ q : List Loc, q = [] := ⟨_, rfl⟩
  have hW : Wd D 43 ad (CC ad cy) A s.heap M H locs := by rw [hH, hlo]; exact hW
  suffices hh : W p l e (rmD 1) s m ([.ref (ad o), .ref (ad o1)] : List Value).toArray below meth c H locs 0 0 Q (F0 m 0 ls []) by rw [hH, hlo] at hh; exact hh
  unfold f_X0_takeFrom at hf
  refine lv_aload_n hx hb dX0_takeFrom_0 rfl (lv_at hl 1 rfl) ?_
  refine gf_X0_9 ho1 X hW dX0_takeFrom_1 ?_
  refine lv_iconst (v := 0) hx hb dX0_takeFrom_4 (by decide) ?_
  refine lv_aload_n hx hb dX0_takeFrom_5 rfl (lv_at hl 0 rfl) ?_
  refine gf_X0_9 ho X hW dX0_takeFrom_6 ?_
  refine lv_iconst (v := 0) hx hb dX0_takeFrom_9 (by decide) ?_
  refine lv_bipush (v := 7) hx hb dX0_takeFrom_10 (by decide) ?_
  obtain ⟨hc12, hf⟩ := grd_some hf
  refine g_copy X hl.1 hW ql_X0_49 q_acn q_acs q_inSys (iA_st1 ho1) (iA_st1 ho) hc12 (by decide) (Nat.le_of_ble_eq_true rfl) dX0_takeFrom_12 (fun H locs hW => ?_)
  obtain ⟨M12, e12, hf⟩ := lt_some hf
  have hW : Wd D 43 ad (CC ad cy) A s.heap M12 H locs := by rw [e12]; exact hW
  refine lv_aload_n hx hb dX0_takeFrom_15 rfl (lv_at hl 1 rfl) ?_
  refine gf_X0_15 ho1 X hW dX0_takeFrom_16 ?_
  refine lv_iconst (v := 0) hx hb dX0_takeFrom_19 (by decide) ?_
  refine lv_aload_n hx hb dX0_takeFrom_20 rfl (lv_at hl 0 rfl) ?_
  refine gf_X0_15 ho X hW dX0_takeFrom_21 ?_
  refine lv_iconst (v := 0) hx hb dX0_takeFrom_24 (by decide) ?_
  refine lv_bipush (v := 7) hx hb dX0_takeFrom_25 (by decide) ?_
  obtain ⟨hc27, hf⟩ := grd_some hf
  refine g_copy X hl.1 hW ql_X0_49 q_acn q_acs q_inSys (iA_st2 ho1) (iA_st2 ho) hc27 (by decide) (Nat.le_of_ble_eq_true rfl) dX0_takeFrom_27 (fun H locs hW => ?_)
  obtain ⟨M27, e27, hf⟩ := lt_some hf
  have hW : Wd D 43 ad (CC ad cy) A s.heap M27 H locs := by rw [e27]; exact hW
  refine lv_aload_n hx hb dX0_takeFrom_30 rfl (lv_at hl 1 rfl) ?_
  refine gf_X0_18 ho1 X hW dX0_takeFrom_31 ?_
  refine lv_iconst (v := 0) hx hb dX0_takeFrom_34 (by decide) ?_
  refine lv_aload_n hx hb dX0_takeFrom_35 rfl (lv_at hl 0 rfl) ?_
  refine gf_X0_18 ho X hW dX0_takeFrom_36 ?_
  refine lv_iconst (v := 0) hx hb dX0_takeFrom_39 (by decide) ?_
  refine lv_bipush (v := 7) hx hb dX0_takeFrom_40 (by decide) ?_
  obtain ⟨hc42, hf⟩ := grd_some hf
  refine g_copy X hl.1 hW ql_X0_49 q_acn q_acs q_inSys (iA_st3 ho1) (iA_st3 ho) hc42 (by decide) (Nat.le_of_ble_eq_true rfl) dX0_takeFrom_42 (fun H locs hW => ?_)
  obtain ⟨M42, e42, hf⟩ := lt_some hf
  have hW : Wd D 43 ad (CC ad cy) A s.heap M42 H locs := by rw [e42]; exact hW
  refine lv_aload_n hx hb dX0_takeFrom_45 rfl (lv_at hl 1 rfl) ?_
  refine gf_X0_21 ho1 X hW dX0_takeFrom_46 ?_
  refine lv_iconst (v := 0) hx hb dX0_takeFrom_49 (by decide) ?_
  refine lv_aload_n hx hb dX0_takeFrom_50 rfl (lv_at hl 0 rfl) ?_
  refine gf_X0_21 ho X hW dX0_takeFrom_51 ?_
  refine lv_iconst (v := 0) hx hb dX0_takeFrom_54 (by decide) ?_
  refine lv_bipush (v := 7) hx hb dX0_takeFrom_55 (by decide) ?_
  obtain ⟨hc57, hf⟩ := grd_some hf
  refine g_copy X hl.1 hW ql_X0_49 q_acn q_acs q_inSys (iA_st4 ho1) (iA_st4 ho) hc57 (by decide) (Nat.le_of_ble_eq_true rfl) dX0_takeFrom_57 (fun H locs hW => ?_)
  obtain ⟨M57, e57, hf⟩ := lt_some hf
  have hW : Wd D 43 ad (CC ad cy) A s.heap M57 H locs := by rw [e57]; exact hW
  refine lv_aload_n hx hb dX0_takeFrom_60 rfl (lv_at hl 1 rfl) ?_
  refine gf_X0_24 ho1 X hW dX0_takeFrom_61 ?_
  refine lv_iconst (v := 0) hx hb dX0_takeFrom_64 (by decide) ?_
  refine lv_aload_n hx hb dX0_takeFrom_65 rfl (lv_at hl 0 rfl) ?_
  refine gf_X0_24 ho X hW dX0_takeFrom_66 ?_
  refine lv_iconst (v := 0) hx hb dX0_takeFrom_69 (by decide) ?_
  refine lv_bipush (v := 7) hx hb dX0_takeFrom_70 (by decide) ?_
  obtain ⟨hc72, hf⟩ := grd_some hf
  refine g_copy X hl.1 hW ql_X0_49 q_acn q_acs q_inSys (iA_st5 ho1) (iA_st5 ho) hc72 (by decide) (Nat.le_of_ble_eq_true rfl) dX0_takeFrom_72 (fun H locs hW => ?_)
  obtain ⟨M72, e72, hf⟩ := lt_some hf
  have hW : Wd D 43 ad (CC ad cy) A s.heap M72 H locs := by rw [e72]; exact hW
  refine lv_aload_n hx hb dX0_takeFrom_75 rfl (lv_at hl 0 rfl) ?_
  refine lv_aload_n hx hb dX0_takeFrom_76 rfl (lv_at hl 1 rfl) ?_
  refine gf_X0_30 ho1 X hW dX0_takeFrom_77 ?_
  refine gp_X0_30 ho X hW dX0_takeFrom_80 (fun H locs hW => ?_)
  obtain ⟨M80, e80, hf⟩ := lt_some hf
  have hW : Wd D 43 ad (CC ad cy) A s.heap M80 H locs := by rw [e80]; exact hW
  refine lv_aload_n hx hb dX0_takeFrom_83 rfl (lv_at hl 0 rfl) ?_
  refine lv_aload_n hx hb dX0_takeFrom_84 rfl (lv_at hl 1 rfl) ?_
  refine gf_X0_34 ho1 X hW dX0_takeFrom_85 ?_
  refine gp_X0_34 ho X hW dX0_takeFrom_88 (fun H locs hW => ?_)
  obtain ⟨M88, e88, hf⟩ := lt_some hf
  have hW : Wd D 43 ad (CC ad cy) A s.heap M88 H locs := by rw [e88]; exact hW
  exact g_vret X hr hlk hQ hW dX0_takeFrom_91 hf

def f_X0_has (o : Nat) (v1 : Int32) (M : Mem) : Option Int32 :=
  (if v1 < 0 then (some 0) else (if (M.1 o 6) ≤ v1 then (some 0) else (some 1)))
set_option maxHeartbeats 4000000 in
set_option maxRecDepth 100000 in
theorem c_X0_has (l : Launch) (D : va_G) (cy : Nat → ClassId) (ad : Nat → Nat) {o : Nat} (ho : isSt o) {v1 : Int32} {M : Mem} {r : Int32} (hf : f_X0_has o v1 M = some r) : MetX l 43 (CC ad cy) D cy ad yX0_has cX0_has 2 (some .boolean) 0 [.ref (ad o), .int v1] M (fun A => QI r M 43 (CC ad cy) D cy ad A) := by
  refine MetX.of (own := RX0) (by decide) rfl (Nat.le_of_ble_eq_true rfl) ?_
  intro p e s m below meth c A Q ls X hr hlk hZ hA hQ hW hl
  have hl : lv_has ls 2 [(0, .ref (ad o)), (1, .int v1)] := hl
  have hx := X.1
  have hb := X.2.1
  obtain ⟨H, hH⟩ : ∃ H, H = s.heap := ⟨_, rfl⟩
  obtain ⟨locs, hlo⟩ : ∃ q : List Loc, q = [] := ⟨_, rfl⟩
  have hW : Wd D 43 ad (CC ad cy) A s.heap M H locs := by rw [hH, hlo]; exact hW
  suffices hh : W p l e (rmD 0) s m ([.ref (ad o), .int v1] : List Value).toArray below meth c H locs 0 0 Q (F0 m 0 ls []) by rw [hH, hlo] at hh; exact hh
  unfold f_X0_has at hf
  refine lv_iload_n hx hb dX0_has_0 rfl (lv_at hl 1 rfl) ?_
  refine lv_if_lt (tgt := 16) hx hb dX0_has_1 (by decide) (fun hc => ?_) (fun hc => ?_)
  · replace hf := ifp hc hf
    refine lv_iconst (v := 0) hx hb dX0_has_16 (by decide) ?_
    exact g_zret X hr hlk hQ hW dX0_has_17 (by decide) (rd_some hf)
  · replace hf := ifn hc hf
    refine lv_iload_n hx hb dX0_has_4 rfl (lv_at hl 1 rfl) ?_
    refine lv_aload_n hx hb dX0_has_5 rfl (lv_at hl 0 rfl) ?_
    refine gf_X0_30 ho X hW dX0_has_6 ?_
    refine lv_icmp_ge (tgt := 16) hx hb dX0_has_9 (by decide) (fun hc => ?_) (fun hc => ?_)
    · replace hf := ifp hc hf
      refine lv_iconst (v := 0) hx hb dX0_has_16 (by decide) ?_
      exact g_zret X hr hlk hQ hW dX0_has_17 (by decide) (rd_some hf)
    · replace hf := ifn hc hf
      refine lv_iconst (v := 1) hx hb dX0_has_12 (by decide) ?_
      refine lv_goto (tgt := 17) hx hb dX0_has_13 (by decide) ?_
      exact g_zret X hr hlk hQ hW dX0_has_17 (by decide) (rd_some hf)

def f_X0_isReady (o : Nat) (v1 : Int32) (M : Mem) : Option Int32 :=
  (grd (inb v1 7) (if (M.1 (o + 1) (ix v1)) = 3 then (if (irm (M.1 o 7) 2) = 0 then (some 1) else (some 0)) else (some 1)))
set_option maxHeartbeats 4000000 in
set_option maxRecDepth 100000 in
theorem c_X0_isReady (l : Launch) (D : va_G) (cy : Nat → ClassId) (ad : Nat → Nat) {o : Nat} (ho : isSt o) {v1 : Int32} {M : Mem} {r : Int32} (hf : f_X0_isReady o v1 M = some r) : MetX l 43 (CC ad cy) D cy ad yX0_isReady cX0_isReady 2 (some .boolean) 0 [.ref (ad o), .int v1] M (fun A => QI r M 43 (CC ad cy) D cy ad A) := by
  refine MetX.of (own := RX0) (by decide) rfl (Nat.le_of_ble_eq_true rfl) ?_
  intro p e s m below meth c A Q ls X hr hlk hZ hA hQ hW hl
  have hl : lv_has ls 2 [(0, .ref (ad o)), (1, .int v1)] := hl
  have hx := X.1
  have hb := X.2.1
  obtain ⟨H, hH⟩ : ∃ H, H = s.heap := ⟨_, rfl⟩
  obtain ⟨locs, hlo⟩ : ∃ q : List Loc, q = [] := ⟨_, rfl⟩
  have hW : Wd D 43 ad (CC ad cy) A s.heap M H locs := by rw [hH, hlo]; exact hW
  suffices hh : W p l e (rmD 0) s m ([.ref (ad o), .int v1] : List Value).toArray below meth c H locs 0 0 Q (F0 m 0 ls []) by rw [hH, hlo] at hh; exact hh
  unfold f_X0_isReady at hf
  refine lv_aload_n hx hb dX0_isReady_0 rfl (lv_at hl 0 rfl) ?_
  refine gf_X0_9 ho X hW dX0_isReady_1 ?_
  refine lv_iload_n hx hb dX0_isReady_4 rfl (lv_at hl 1 rfl) ?_
  obtain ⟨hi5, hf⟩ := grd_some hf
  refine g_iald X hW (iA_st1 ho) hi5 dX0_isReady_5 ?_
  refine lv_iconst (v := 3) hx hb dX0_isReady_6 (by decide) ?_
  refine lv_icmp_ne (tgt := 19) hx hb dX0_isReady_7 (by decide) (fun hc => ?_) (fun hc => ?_)
  · replace hf := ifn hc hf
    refine lv_iconst (v := 1) hx hb dX0_isReady_19 (by decide) ?_
    refine lv_goto (tgt := 24) hx hb dX0_isReady_20 (by decide) ?_
    exact g_zret X hr hlk hQ hW dX0_isReady_24 (by decide) (rd_some hf)
  · replace hf := ifp hc hf
    refine lv_aload_n hx hb dX0_isReady_10 rfl (lv_at hl 0 rfl) ?_
    refine gf_X0_34 ho X hW dX0_isReady_11 ?_
    refine lv_iconst (v := 2) hx hb dX0_isReady_14 (by decide) ?_
    refine r_irem hx hb dX0_isReady_15 (by decide) ?_
    refine lv_if_ne (tgt := 23) hx hb dX0_isReady_16 (by decide) (fun hc => ?_) (fun hc => ?_)
    · replace hf := ifn hc hf
      refine lv_iconst (v := 0) hx hb dX0_isReady_23 (by decide) ?_
      exact g_zret X hr hlk hQ hW dX0_isReady_24 (by decide) (rd_some hf)
    · replace hf := ifp hc hf
      refine lv_iconst (v := 1) hx hb dX0_isReady_19 (by decide) ?_
      refine lv_goto (tgt := 24) hx hb dX0_isReady_20 (by decide) ?_
      exact g_zret X hr hlk hQ hW dX0_isReady_24 (by decide) (rd_some hf)

def f_X0_comesOut (o : Nat) (v1 : Int32) (M : Mem) : Option Int32 :=
  (bR (f_X0_isReady o v1 M) (fun r2 => (if r2 = 0 then (some 0) else (grd (inb v1 7) (some ((M.1 (o + 4) (ix v1)) &&& 1))))))
set_option maxHeartbeats 4000000 in
set_option maxRecDepth 100000 in
theorem c_X0_comesOut (l : Launch) (D : va_G) (cy : Nat → ClassId) (ad : Nat → Nat) {o : Nat} (ho : isSt o) {v1 : Int32} {M : Mem} {r : Int32} (hf : f_X0_comesOut o v1 M = some r) : MetX l 43 (CC ad cy) D cy ad yX0_comesOut cX0_comesOut 2 (some .int) 1 [.ref (ad o), .int v1] M (fun A => QI r M 43 (CC ad cy) D cy ad A) := by
  refine MetX.of (own := RX0) (by decide) rfl (Nat.le_of_ble_eq_true rfl) ?_
  intro p e s m below meth c A Q ls X hr hlk hZ hA hQ hW hl
  have hl : lv_has ls 2 [(0, .ref (ad o)), (1, .int v1)] := hl
  have hx := X.1
  have hb := X.2.1
  obtain ⟨H, hH⟩ : ∃ H, H = s.heap := ⟨_, rfl⟩
  obtain ⟨locs, hlo⟩ : ∃ q : List Loc, q = [] := ⟨_, rfl⟩
  have hW : Wd D 43 ad (CC ad cy) A s.heap M H locs := by rw [hH, hlo]; exact hW
  suffices hh : W p l e (rmD 1) s m ([.ref (ad o), .int v1] : List Value).toArray below meth c H locs 0 0 Q (F0 m 0 ls []) by rw [hH, hlo] at hh; exact hh
  unfold f_X0_comesOut at hf
  refine lv_aload_n hx hb dX0_comesOut_0 rfl (lv_at hl 0 rfl) ?_
  refine lv_iload_n hx hb dX0_comesOut_1 rfl (lv_at hl 1 rfl) ?_
  obtain ⟨r2, h2, hf⟩ := bR_some hf
  refine g_calliV X hl.1 hZ hA hW (c_X0_isReady l D cy ad ho h2) cw_X0_isReady ql_X0_65 (iO_st ho) rfl (by decide) rfl (Nat.le_of_ble_eq_true rfl) dX0_comesOut_2 (fun H locs hW => ?_)
  refine lv_if_eq (tgt := 19) hx hb dX0_comesOut_5 (by decide) (fun hc => ?_) (fun hc => ?_)
  · replace hf := ifp hc hf
    refine lv_iconst (v := 0) hx hb dX0_comesOut_19 (by decide) ?_
    exact g_iret X hr hlk hQ hW dX0_comesOut_20 (rd_some hf)
  · replace hf := ifn hc hf
    refine lv_aload_n hx hb dX0_comesOut_8 rfl (lv_at hl 0 rfl) ?_
    refine gf_X0_21 ho X hW dX0_comesOut_9 ?_
    refine lv_iload_n hx hb dX0_comesOut_12 rfl (lv_at hl 1 rfl) ?_
    obtain ⟨hi13, hf⟩ := grd_some hf
    refine g_iald X hW (iA_st4 ho) hi13 dX0_comesOut_13 ?_
    refine lv_iconst (v := 1) hx hb dX0_comesOut_14 (by decide) ?_
    refine lv_iand hx hb dX0_comesOut_15 ?_
    refine lv_goto (tgt := 20) hx hb dX0_comesOut_16 (by decide) ?_
    exact g_iret X hr hlk hQ hW dX0_comesOut_20 (rd_some hf)

def f_X0_cameTo_L2 (o : Nat) (v1_L2 : Int32) (M : Mem) (k20 : Int32 → Option Int32) : Nat → Int32 → Option Int32
  | 0, _ => none
  | n + 1, v2_L2 => (if (M.1 o 6) ≤ v2_L2 then (some 0) else (grd (inb v2_L2 7) (if (M.1 (o + 5) (ix v2_L2)) = v1_L2 then (k20 v2_L2) else (f_X0_cameTo_L2 o v1_L2 M k20 n (v2_L2 + 1)))))
def f_X0_cameTo (o : Nat) (v1 : Int32) (M : Mem) : Option Int32 :=
  (jn (fun (k20 : Int32 → Option Int32) => (f_X0_cameTo_L2 o v1 M k20 FU 0)) (fun (v2_20x : Int32) => (bR (f_X0_comesOut o v2_20x M) (fun r22 => (some r22)))))
set_option maxHeartbeats 4000000 in
set_option maxRecDepth 100000 in
theorem c_X0_cameTo (l : Launch) (D : va_G) (cy : Nat → ClassId) (ad : Nat → Nat) {o : Nat} (ho : isSt o) {v1 : Int32} {M : Mem} {r : Int32} (hf : f_X0_cameTo o v1 M = some r) : MetX l 43 (CC ad cy) D cy ad yX0_cameTo cX0_cameTo 3 (some .int) 2 [.ref (ad o), .int v1] M (fun A => QI r M 43 (CC ad cy) D cy ad A) := by
  refine MetX.of (own := RX0) (by decide) rfl (Nat.le_of_ble_eq_true rfl) ?_
  intro p e s m below meth c A Q ls X hr hlk hZ hA hQ hW hl
  have hl : lv_has ls 3 [(0, .ref (ad o)), (1, .int v1)] := hl
  have hx := X.1
  have hb := X.2.1
  have hL2 : ∀ (v1_L2 : Int32) (k20 : Int32 → Option Int32) (hJ20 : ∀ (v2_20x : Int32) (H : Heap) (locs : List Loc) (ls : Array Slot), k20 v2_20x = some r → Wd D 43 ad (CC ad cy) A s.heap M H locs → lv_has ls 3 [(0, .ref (ad o)), (2, .int v2_20x)] → W p l e (rmD 2) s m ([.ref (ad o), .int v1] : List Value).toArray below meth c H locs 0 0 Q (F0 m 20 ls [])) (n : Nat) (v2_L2 : Int32) (H : Heap) (locs : List Loc) (ls : Array Slot), f_X0_cameTo_L2 o v1_L2 M k20 n v2_L2 = some r → Wd D 43 ad (CC ad cy) A s.heap M H locs → lv_has ls 3 [(0, .ref (ad o)), (1, .int v1_L2), (2, .int v2_L2)] → W p l e (rmD 2) s m ([.ref (ad o), .int v1] : List Value).toArray below meth c H locs 0 0 Q (F0 m 2 ls []) := by
    intro v1_L2 k20 hJ20 n
    induction n with
    | zero =>
      intro v2_L2 H locs ls hf
      cases (show (none : Option Int32) = some r from hf)
    | succ n ih =>
      intro v2_L2 H locs ls hf hW hl
      rw [f_X0_cameTo_L2] at hf
      refine lv_iload_n hx hb dX0_cameTo_2 rfl (lv_at hl 2 rfl) ?_
      refine lv_aload_n hx hb dX0_cameTo_3 rfl (lv_at hl 0 rfl) ?_
      refine gf_X0_30 ho X hW dX0_cameTo_4 ?_
      refine lv_icmp_ge (tgt := 32) hx hb dX0_cameTo_7 (by decide) (fun hc => ?_) (fun hc => ?_)
      · replace hf := ifp hc hf
        refine lv_iconst (v := 0) hx hb dX0_cameTo_32 (by decide) ?_
        exact g_iret X hr hlk hQ hW dX0_cameTo_33 (rd_some hf)
      · replace hf := ifn hc hf
        refine lv_aload_n hx hb dX0_cameTo_10 rfl (lv_at hl 0 rfl) ?_
        refine gf_X0_24 ho X hW dX0_cameTo_11 ?_
        refine lv_iload_n hx hb dX0_cameTo_14 rfl (lv_at hl 2 rfl) ?_
        obtain ⟨hi15, hf⟩ := grd_some hf
        refine g_iald X hW (iA_st5 ho) hi15 dX0_cameTo_15 ?_
        refine lv_iload_n hx hb dX0_cameTo_16 rfl (lv_at hl 1 rfl) ?_
        refine lv_icmp_ne (tgt := 26) hx hb dX0_cameTo_17 (by decide) (fun hc => ?_) (fun hc => ?_)
        · replace hf := ifn hc hf
          refine lv_iinc (v := (v2_L2 + 1)) (lv' := [(2, .int (v2_L2 + 1)), (0, .ref (ad o)), (1, .int v1_L2)]) hx hb dX0_cameTo_26 hl (k := 2) rfl rfl (by decide) rfl (fun ls hl => ?_)
          refine lv_goto (tgt := 2) hx hb dX0_cameTo_29 (by decide) ?_
          exact ih (v2_L2 + 1) H locs ls hf hW (lv_sub hl [1, 2, 0] rfl)
        · replace hf := ifp hc hf
          exact hJ20 v2_L2 H locs ls hf hW (lv_sub hl [0, 2] rfl)
  obtain ⟨H, hH⟩ : ∃ H, H = s.heap := ⟨_, rfl⟩
  obtain ⟨locs, hlo⟩ : ∃ q : List Loc, q = [] := ⟨_, rfl⟩
  have hW : Wd D 43 ad (CC ad cy) A s.heap M H locs := by rw [hH, hlo]; exact hW
  suffices hh : W p l e (rmD 2) s m ([.ref (ad o), .int v1] : List Value).toArray below meth c H locs 0 0 Q (F0 m 0 ls []) by rw [hH, hlo] at hh; exact hh
  unfold f_X0_cameTo at hf
  refine lv_iconst (v := 0) hx hb dX0_cameTo_0 (by decide) ?_
  refine lv_istore_n (lv' := [(2, .int 0), (0, .ref (ad o)), (1, .int v1)]) hx hb dX0_cameTo_1 rfl hl (by decide) rfl (fun ls hl => ?_)
  obtain ⟨k20, hk20, hf⟩ := jn_some1 hf
  have hJ20 : ∀ (v2_20x : Int32) (H : Heap) (locs : List Loc) (ls : Array Slot), k20 v2_20x = some r → Wd D 43 ad (CC ad cy) A s.heap M H locs → lv_has ls 3 [(0, .ref (ad o)), (2, .int v2_20x)] → W p l e (rmD 2) s m ([.ref (ad o), .int v1] : List Value).toArray below meth c H locs 0 0 Q (F0 m 20 ls []) := by
    intro v2_20x H locs ls hf hW hl
    rw [hk20] at hf
    refine lv_aload_n hx hb dX0_cameTo_20 rfl (lv_at hl 0 rfl) ?_
    refine lv_iload_n hx hb dX0_cameTo_21 rfl (lv_at hl 1 rfl) ?_
    obtain ⟨r22, h22, hf⟩ := bR_some hf
    refine g_calliV X hl.1 hZ hA hW (c_X0_comesOut l D cy ad ho h22) cw_X0_comesOut ql_X0_62 (iO_st ho) rfl (by decide) rfl (Nat.le_of_ble_eq_true rfl) dX0_cameTo_22 (fun H locs hW => ?_)
    exact g_iret X hr hlk hQ hW dX0_cameTo_25 (rd_some hf)
  exact hL2 v1 k20 hJ20 FU 0 H locs ls hf hW (lv_sub hl [1, 2, 0] rfl)

def f_X0_ticksTillStruck (o : Nat) (v1 : Int32) (M : Mem) : Option Int32 :=
  (grd (inb v1 7) (if ((M.1 (o + 3) (ix v1)) + 2) ≤ 0 then (some 0) else (grd (nz ((M.1 (o + 3) (ix v1)) + 2)) (grd (nz ((M.1 (o + 3) (ix v1)) + 2)) (some (irm (((M.1 (o + 3) (ix v1)) + 2) - (irm (M.1 o 7) ((M.1 (o + 3) (ix v1)) + 2))) ((M.1 (o + 3) (ix v1)) + 2)))))))
set_option maxHeartbeats 4000000 in
set_option maxRecDepth 100000 in
theorem c_X0_ticksTillStruck (l : Launch) (D : va_G) (cy : Nat → ClassId) (ad : Nat → Nat) {o : Nat} (ho : isSt o) {v1 : Int32} {M : Mem} {r : Int32} (hf : f_X0_ticksTillStruck o v1 M = some r) : MetX l 43 (CC ad cy) D cy ad yX0_ticksTillStruck cX0_ticksTillStruck 3 (some .int) 0 [.ref (ad o), .int v1] M (fun A => QI r M 43 (CC ad cy) D cy ad A) := by
  refine MetX.of (own := RX0) (by decide) rfl (Nat.le_of_ble_eq_true rfl) ?_
  intro p e s m below meth c A Q ls X hr hlk hZ hA hQ hW hl
  have hl : lv_has ls 3 [(0, .ref (ad o)), (1, .int v1)] := hl
  have hx := X.1
  have hb := X.2.1
  obtain ⟨H, hH⟩ : ∃ H, H = s.heap := ⟨_, rfl⟩
  obtain ⟨locs, hlo⟩ : ∃ q : List Loc, q = [] := ⟨_, rfl⟩
  have hW : Wd D 43 ad (CC ad cy) A s.heap M H locs := by rw [hH, hlo]; exact hW
  suffices hh : W p l e (rmD 0) s m ([.ref (ad o), .int v1] : List Value).toArray below meth c H locs 0 0 Q (F0 m 0 ls []) by rw [hH, hlo] at hh; exact hh
  unfold f_X0_ticksTillStruck at hf
  refine lv_aload_n hx hb dX0_ticksTillStruck_0 rfl (lv_at hl 0 rfl) ?_
  refine gf_X0_18 ho X hW dX0_ticksTillStruck_1 ?_
  refine lv_iload_n hx hb dX0_ticksTillStruck_4 rfl (lv_at hl 1 rfl) ?_
  obtain ⟨hi5, hf⟩ := grd_some hf
  refine g_iald X hW (iA_st3 ho) hi5 dX0_ticksTillStruck_5 ?_
  refine lv_iconst (v := 2) hx hb dX0_ticksTillStruck_6 (by decide) ?_
  refine lv_iadd hx hb dX0_ticksTillStruck_7 ?_
  refine lv_istore_n (lv' := [(2, .int ((M.1 (o + 3) (ix v1)) + 2)), (0, .ref (ad o)), (1, .int v1)]) hx hb dX0_ticksTillStruck_8 rfl hl (by decide) rfl (fun ls hl => ?_)
  refine lv_iload_n hx hb dX0_ticksTillStruck_9 rfl (lv_at hl 0 rfl) ?_
  refine lv_if_le (tgt := 26) hx hb dX0_ticksTillStruck_10 (by decide) (fun hc => ?_) (fun hc => ?_)
  · replace hf := ifp hc hf
    refine lv_iconst (v := 0) hx hb dX0_ticksTillStruck_26 (by decide) ?_
    exact g_iret X hr hlk hQ hW dX0_ticksTillStruck_27 (rd_some hf)
  · replace hf := ifn hc hf
    refine lv_iload_n hx hb dX0_ticksTillStruck_13 rfl (lv_at hl 0 rfl) ?_
    refine lv_aload_n hx hb dX0_ticksTillStruck_14 rfl (lv_at hl 1 rfl) ?_
    refine gf_X0_34 ho X hW dX0_ticksTillStruck_15 ?_
    refine lv_iload_n hx hb dX0_ticksTillStruck_18 rfl (lv_at hl 0 rfl) ?_
    obtain ⟨hz19, hf⟩ := grd_some hf
    refine r_irem hx hb dX0_ticksTillStruck_19 (nz_ne hz19) ?_
    refine lv_isub hx hb dX0_ticksTillStruck_20 ?_
    refine lv_iload_n hx hb dX0_ticksTillStruck_21 rfl (lv_at hl 0 rfl) ?_
    obtain ⟨hz22, hf⟩ := grd_some hf
    refine r_irem hx hb dX0_ticksTillStruck_22 (nz_ne hz22) ?_
    refine lv_goto (tgt := 27) hx hb dX0_ticksTillStruck_23 (by decide) ?_
    exact g_iret X hr hlk hQ hW dX0_ticksTillStruck_27 (rd_some hf)

def f_X0_sentAs (o : Nat) (v1 : Int32) (v2 : Int32) (v3 : Int32) (M : Mem) : Option Int32 :=
  (grd (inb v2 7) (grd (inb v2 7) (jn (fun (k26 : Int32 → Option Int32) => (if ((shr (M.1 (o + 4) (ix v2)) ((M.1 (o + 2) (ix v2)) - 1)) &&& 1) = 1 then (k26 1) else (k26 0))) (fun (t0_26j : Int32) => (bR (f_X0_ticksTillStruck o v2 M) (fun r30 => (jn (fun (k41 : Int32 → Option Int32) => (if r30 = 0 then (k41 1) else (k41 0))) (fun (t0_41j : Int32) => (if v1 = 1 then (if t0_41j = 0 then (some v3) else (some 0)) else (if v1 = 2 then (if t0_26j = 0 then (some v3) else (if t0_41j = 0 then (some v3) else (some 1))) else (if v1 = 3 then (some v3) else (if v1 = 4 then (if t0_41j = 0 then (some v3) else (some (1 - v3))) else (if v1 = 5 then (if t0_26j = 0 then (if (irm (M.1 o 7) 3) = 0 then (some 0) else (some v3)) else (if t0_41j = 0 then (some v3) else (some 1))) else (some v3))))))))))))))
set_option maxHeartbeats 4000000 in
set_option maxRecDepth 100000 in
theorem c_X0_sentAs (l : Launch) (D : va_G) (cy : Nat → ClassId) (ad : Nat → Nat) {o : Nat} (ho : isSt o) {v1 : Int32} {v2 : Int32} {v3 : Int32} {M : Mem} {r : Int32} (hf : f_X0_sentAs o v1 v2 v3 M = some r) : MetX l 43 (CC ad cy) D cy ad yX0_sentAs cX0_sentAs 6 (some .int) 1 [.ref (ad o), .int v1, .int v2, .int v3] M (fun A => QI r M 43 (CC ad cy) D cy ad A) := by
  refine MetX.of (own := RX0) (by decide) rfl (Nat.le_of_ble_eq_true rfl) ?_
  intro p e s m below meth c A Q ls X hr hlk hZ hA hQ hW hl
  have hl : lv_has ls 6 [(0, .ref (ad o)), (1, .int v1), (2, .int v2), (3, .int v3)] := hl
  have hx := X.1
  have hb := X.2.1
  obtain ⟨H, hH⟩ : ∃ H, H = s.heap := ⟨_, rfl⟩
  obtain ⟨locs, hlo⟩ : ∃ q : List Loc, q = [] := ⟨_, rfl⟩
  have hW : Wd D 43 ad (CC ad cy) A s.heap M H locs := by rw [hH, hlo]; exact hW
  suffices hh : W p l e (rmD 1) s m ([.ref (ad o), .int v1, .int v2, .int v3] : List Value).toArray below meth c H locs 0 0 Q (F0 m 0 ls []) by rw [hH, hlo] at hh; exact hh
  unfold f_X0_sentAs at hf
  refine lv_aload_n hx hb dX0_sentAs_0 rfl (lv_at hl 0 rfl) ?_
  refine gf_X0_21 ho X hW dX0_sentAs_1 ?_
  refine lv_iload_n hx hb dX0_sentAs_4 rfl (lv_at hl 2 rfl) ?_
  obtain ⟨hi5, hf⟩ := grd_some hf
  refine g_iald X hW (iA_st4 ho) hi5 dX0_sentAs_5 ?_
  refine lv_aload_n hx hb dX0_sentAs_6 rfl (lv_at hl 0 rfl) ?_
  refine gf_X0_15 ho X hW dX0_sentAs_7 ?_
  refine lv_iload_n hx hb dX0_sentAs_10 rfl (lv_at hl 2 rfl) ?_
  obtain ⟨hi11, hf⟩ := grd_some hf
  refine g_iald X hW (iA_st2 ho) hi11 dX0_sentAs_11 ?_
  refine lv_iconst (v := 1) hx hb dX0_sentAs_12 (by decide) ?_
  refine lv_isub hx hb dX0_sentAs_13 ?_
  refine r_ishr hx hb dX0_sentAs_14 ?_
  refine lv_iconst (v := 1) hx hb dX0_sentAs_15 (by decide) ?_
  refine lv_iand hx hb dX0_sentAs_16 ?_
  refine lv_iconst (v := 1) hx hb dX0_sentAs_17 (by decide) ?_
  obtain ⟨k26, hk26, hf⟩ := jn_some1 hf
  have hJ26 : ∀ (t0_26j : Int32) (H : Heap) (locs : List Loc) (ls : Array Slot), k26 t0_26j = some r → Wd D 43 ad (CC ad cy) A s.heap M H locs → lv_has ls 6 [(0, .ref (ad o)), (1, .int v1), (2, .int v2), (3, .int v3)] → W p l e (rmD 1) s m ([.ref (ad o), .int v1, .int v2, .int v3] : List Value).toArray below meth c H locs 0 0 Q (F0 m 26 ls [.int t0_26j]) := by
    intro t0_26j H locs ls hf hW hl
    rw [hk26] at hf
    refine lv_istore (lv' := [(4, .int t0_26j), (0, .ref (ad o)), (1, .int v1), (2, .int v2), (3, .int v3)]) hx hb dX0_sentAs_26 hl (by decide) rfl (fun ls hl => ?_)
    refine lv_aload_n hx hb dX0_sentAs_28 rfl (lv_at hl 1 rfl) ?_
    refine lv_iload_n hx hb dX0_sentAs_29 rfl (lv_at hl 3 rfl) ?_
    obtain ⟨r30, h30, hf⟩ := bR_some hf
    refine g_calliV X hl.1 hZ hA hW (c_X0_ticksTillStruck l D cy ad ho h30) cw_X0_ticksTillStruck ql_X0_72 (iO_st ho) rfl (by decide) rfl (Nat.le_of_ble_eq_true rfl) dX0_sentAs_30 (fun H locs hW => ?_)
    obtain ⟨k41, hk41, hf⟩ := jn_some1 hf
    have hJ41 : ∀ (t0_41j : Int32) (H : Heap) (locs : List Loc) (ls : Array Slot), k41 t0_41j = some r → Wd D 43 ad (CC ad cy) A s.heap M H locs → lv_has ls 6 [(0, .ref (ad o)), (1, .int v1), (3, .int v3), (4, .int t0_26j)] → W p l e (rmD 1) s m ([.ref (ad o), .int v1, .int v2, .int v3] : List Value).toArray below meth c H locs 0 0 Q (F0 m 41 ls [.int t0_41j]) := by
      intro t0_41j H locs ls hf hW hl
      rw [hk41] at hf
      refine lv_istore (lv' := [(5, .int t0_41j), (0, .ref (ad o)), (1, .int v1), (3, .int v3), (4, .int t0_26j)]) hx hb dX0_sentAs_41 hl (by decide) rfl (fun ls hl => ?_)
      refine lv_iload_n hx hb dX0_sentAs_43 rfl (lv_at hl 2 rfl) ?_
      by_cases hc1 : v1 = 1
      · replace hf := ifp hc1 hf
        refine lv_tableIn (tgt := 80) hx hb dX0_sentAs_44 (by rw [hc1]; decide) (by rw [hc1]; decide) (by rw [hc1]; rfl) (by decide) ?_
        refine lv_iload hx hb dX0_sentAs_80 (lv_at hl 0 rfl) ?_
        refine lv_if_eq (tgt := 89) hx hb dX0_sentAs_82 (by decide) (fun hc => ?_) (fun hc => ?_)
        · replace hf := ifp hc hf
          refine lv_iload_n hx hb dX0_sentAs_89 rfl (lv_at hl 3 rfl) ?_
          exact g_iret X hr hlk hQ hW dX0_sentAs_90 (rd_some hf)
        · replace hf := ifn hc hf
          refine lv_iconst (v := 0) hx hb dX0_sentAs_85 (by decide) ?_
          refine lv_goto (tgt := 90) hx hb dX0_sentAs_86 (by decide) ?_
          exact g_iret X hr hlk hQ hW dX0_sentAs_90 (rd_some hf)
      · replace hf := ifn hc1 hf
        by_cases hc2 : v1 = 2
        · replace hf := ifp hc2 hf
          refine lv_tableIn (tgt := 91) hx hb dX0_sentAs_44 (by rw [hc2]; decide) (by rw [hc2]; decide) (by rw [hc2]; rfl) (by decide) ?_
          refine lv_iload hx hb dX0_sentAs_91 (lv_at hl 4 rfl) ?_
          refine lv_if_eq (tgt := 105) hx hb dX0_sentAs_93 (by decide) (fun hc => ?_) (fun hc => ?_)
          · replace hf := ifp hc hf
            refine lv_iload_n hx hb dX0_sentAs_105 rfl (lv_at hl 3 rfl) ?_
            exact g_iret X hr hlk hQ hW dX0_sentAs_106 (rd_some hf)
          · replace hf := ifn hc hf
            refine lv_iload hx hb dX0_sentAs_96 (lv_at hl 0 rfl) ?_
            refine lv_if_eq (tgt := 105) hx hb dX0_sentAs_98 (by decide) (fun hc => ?_) (fun hc => ?_)
            · replace hf := ifp hc hf
              refine lv_iload_n hx hb dX0_sentAs_105 rfl (lv_at hl 3 rfl) ?_
              exact g_iret X hr hlk hQ hW dX0_sentAs_106 (rd_some hf)
            · replace hf := ifn hc hf
              refine lv_iconst (v := 1) hx hb dX0_sentAs_101 (by decide) ?_
              refine lv_goto (tgt := 106) hx hb dX0_sentAs_102 (by decide) ?_
              exact g_iret X hr hlk hQ hW dX0_sentAs_106 (rd_some hf)
        · replace hf := ifn hc2 hf
          by_cases hc3 : v1 = 3
          · replace hf := ifp hc3 hf
            refine lv_tableIn (tgt := 151) hx hb dX0_sentAs_44 (by rw [hc3]; decide) (by rw [hc3]; decide) (by rw [hc3]; rfl) (by decide) ?_
            refine lv_iload_n hx hb dX0_sentAs_151 rfl (lv_at hl 3 rfl) ?_
            exact g_iret X hr hlk hQ hW dX0_sentAs_152 (rd_some hf)
          · replace hf := ifn hc3 hf
            by_cases hc4 : v1 = 4
            · replace hf := ifp hc4 hf
              refine lv_tableIn (tgt := 107) hx hb dX0_sentAs_44 (by rw [hc4]; decide) (by rw [hc4]; decide) (by rw [hc4]; rfl) (by decide) ?_
              refine lv_iload hx hb dX0_sentAs_107 (lv_at hl 0 rfl) ?_
              refine lv_if_eq (tgt := 118) hx hb dX0_sentAs_109 (by decide) (fun hc => ?_) (fun hc => ?_)
              · replace hf := ifp hc hf
                refine lv_iload_n hx hb dX0_sentAs_118 rfl (lv_at hl 3 rfl) ?_
                exact g_iret X hr hlk hQ hW dX0_sentAs_119 (rd_some hf)
              · replace hf := ifn hc hf
                refine lv_iconst (v := 1) hx hb dX0_sentAs_112 (by decide) ?_
                refine lv_iload_n hx hb dX0_sentAs_113 rfl (lv_at hl 3 rfl) ?_
                refine lv_isub hx hb dX0_sentAs_114 ?_
                refine lv_goto (tgt := 119) hx hb dX0_sentAs_115 (by decide) ?_
                exact g_iret X hr hlk hQ hW dX0_sentAs_119 (rd_some hf)
            · replace hf := ifn hc4 hf
              by_cases hc5 : v1 = 5
              · replace hf := ifp hc5 hf
                refine lv_tableIn (tgt := 120) hx hb dX0_sentAs_44 (by rw [hc5]; decide) (by rw [hc5]; decide) (by rw [hc5]; rfl) (by decide) ?_
                refine lv_iload hx hb dX0_sentAs_120 (lv_at hl 4 rfl) ?_
                refine lv_if_ne (tgt := 140) hx hb dX0_sentAs_122 (by decide) (fun hc => ?_) (fun hc => ?_)
                · replace hf := ifn hc hf
                  refine lv_iload hx hb dX0_sentAs_140 (lv_at hl 0 rfl) ?_
                  refine lv_if_eq (tgt := 149) hx hb dX0_sentAs_142 (by decide) (fun hc => ?_) (fun hc => ?_)
                  · replace hf := ifp hc hf
                    refine lv_iload_n hx hb dX0_sentAs_149 rfl (lv_at hl 3 rfl) ?_
                    exact g_iret X hr hlk hQ hW dX0_sentAs_150 (rd_some hf)
                  · replace hf := ifn hc hf
                    refine lv_iconst (v := 1) hx hb dX0_sentAs_145 (by decide) ?_
                    refine lv_goto (tgt := 150) hx hb dX0_sentAs_146 (by decide) ?_
                    exact g_iret X hr hlk hQ hW dX0_sentAs_150 (rd_some hf)
                · replace hf := ifp hc hf
                  refine lv_aload_n hx hb dX0_sentAs_125 rfl (lv_at hl 1 rfl) ?_
                  refine gf_X0_34 ho X hW dX0_sentAs_126 ?_
                  refine lv_iconst (v := 3) hx hb dX0_sentAs_129 (by decide) ?_
                  refine r_irem hx hb dX0_sentAs_130 (by decide) ?_
                  refine lv_if_ne (tgt := 138) hx hb dX0_sentAs_131 (by decide) (fun hc => ?_) (fun hc => ?_)
                  · replace hf := ifn hc hf
                    refine lv_iload_n hx hb dX0_sentAs_138 rfl (lv_at hl 3 rfl) ?_
                    exact g_iret X hr hlk hQ hW dX0_sentAs_139 (rd_some hf)
                  · replace hf := ifp hc hf
                    refine lv_iconst (v := 0) hx hb dX0_sentAs_134 (by decide) ?_
                    refine lv_goto (tgt := 139) hx hb dX0_sentAs_135 (by decide) ?_
                    exact g_iret X hr hlk hQ hW dX0_sentAs_139 (rd_some hf)
              · replace hf := ifn hc5 hf
                refine lv_tableOut (tgt := 151) hx hb dX0_sentAs_44 (by have q1 := sw_ne (a := 1) hc1 (by decide); have q2 := sw_ne (a := 2) hc2 (by decide); have q3 := sw_ne (a := 3) hc3 (by decide); have q4 := sw_ne (a := 4) hc4 (by decide); have q5 := sw_ne (a := 5) hc5 (by decide); omega) (by decide) ?_
                refine lv_iload_n hx hb dX0_sentAs_151 rfl (lv_at hl 3 rfl) ?_
                exact g_iret X hr hlk hQ hW dX0_sentAs_152 (rd_some hf)
    refine lv_if_ne (tgt := 40) hx hb dX0_sentAs_33 (by decide) (fun hc => ?_) (fun hc => ?_)
    · replace hf := ifn hc hf
      refine lv_iconst (v := 0) hx hb dX0_sentAs_40 (by decide) ?_
      exact hJ41 0 H locs ls hf hW (lv_sub hl [1, 2, 4, 0] rfl)
    · replace hf := ifp hc hf
      refine lv_iconst (v := 1) hx hb dX0_sentAs_36 (by decide) ?_
      refine lv_goto (tgt := 41) hx hb dX0_sentAs_37 (by decide) ?_
      exact hJ41 1 H locs ls hf hW (lv_sub hl [1, 2, 4, 0] rfl)
  refine lv_icmp_ne (tgt := 25) hx hb dX0_sentAs_18 (by decide) (fun hc => ?_) (fun hc => ?_)
  · replace hf := ifn hc hf
    refine lv_iconst (v := 0) hx hb dX0_sentAs_25 (by decide) ?_
    exact hJ26 0 H locs ls hf hW (lv_sub hl [0, 1, 2, 3] rfl)
  · replace hf := ifp hc hf
    refine lv_iconst (v := 1) hx hb dX0_sentAs_21 (by decide) ?_
    refine lv_goto (tgt := 26) hx hb dX0_sentAs_22 (by decide) ?_
    exact hJ26 1 H locs ls hf hW (lv_sub hl [0, 1, 2, 3] rfl)

def f_X0_fact (o : Nat) (v1 : Int32) (v2 : Int32) (M : Mem) : Option Int32 :=
  (if v2 = 0 then (grd (inb v1 7) (some (M.1 (o + 1) (ix v1)))) else (if v2 = 1 then (grd (inb v1 7) (some (M.1 (o + 2) (ix v1)))) else (if v2 = 2 then (grd (inb v1 7) (some (M.1 (o + 3) (ix v1)))) else (if v2 = 3 then (grd (inb v1 7) (some (M.1 (o + 4) (ix v1)))) else (if v2 = 4 then (grd (inb v1 7) (some (M.1 (o + 5) (ix v1)))) else (if v2 = 5 then (bR (f_X0_isReady o v1 M) (fun r77 => (if r77 = 0 then (some 0) else (some 1)))) else (grd (inb v1 7) (bR (f_X0_cameTo o v1 M) (fun r99 => (bR (f_X0_sentAs o (M.1 (o + 1) (ix v1)) v1 r99 M) (fun r102 => (some r102))))))))))))
set_option maxHeartbeats 4000000 in
set_option maxRecDepth 100000 in
theorem c_X0_fact (l : Launch) (D : va_G) (cy : Nat → ClassId) (ad : Nat → Nat) {o : Nat} (ho : isSt o) {v1 : Int32} {v2 : Int32} {M : Mem} {r : Int32} (hf : f_X0_fact o v1 v2 M = some r) : MetX l 43 (CC ad cy) D cy ad yX0_fact cX0_fact 3 (some .int) 3 [.ref (ad o), .int v1, .int v2] M (fun A => QI r M 43 (CC ad cy) D cy ad A) := by
  refine MetX.of (own := RX0) (by decide) rfl (Nat.le_of_ble_eq_true rfl) ?_
  intro p e s m below meth c A Q ls X hr hlk hZ hA hQ hW hl
  have hl : lv_has ls 3 [(0, .ref (ad o)), (1, .int v1), (2, .int v2)] := hl
  have hx := X.1
  have hb := X.2.1
  obtain ⟨H, hH⟩ : ∃ H, H = s.heap := ⟨_, rfl⟩
  obtain ⟨locs, hlo⟩ : ∃ q : List Loc, q = [] := ⟨_, rfl⟩
  have hW : Wd D 43 ad (CC ad cy) A s.heap M H locs := by rw [hH, hlo]; exact hW
  suffices hh : W p l e (rmD 3) s m ([.ref (ad o), .int v1, .int v2] : List Value).toArray below meth c H locs 0 0 Q (F0 m 0 ls []) by rw [hH, hlo] at hh; exact hh
  unfold f_X0_fact at hf
  refine lv_iload_n hx hb dX0_fact_0 rfl (lv_at hl 2 rfl) ?_
  by_cases hc0 : v2 = 0
  · replace hf := ifp hc0 hf
    refine lv_tableIn (tgt := 40) hx hb dX0_fact_1 (by rw [hc0]; decide) (by rw [hc0]; decide) (by rw [hc0]; rfl) (by decide) ?_
    refine lv_aload_n hx hb dX0_fact_40 rfl (lv_at hl 0 rfl) ?_
    refine gf_X0_9 ho X hW dX0_fact_41 ?_
    refine lv_iload_n hx hb dX0_fact_44 rfl (lv_at hl 1 rfl) ?_
    obtain ⟨hi45, hf⟩ := grd_some hf
    refine g_iald X hW (iA_st1 ho) hi45 dX0_fact_45 ?_
    exact g_iret X hr hlk hQ hW dX0_fact_46 (rd_some hf)
  · replace hf := ifn hc0 hf
    by_cases hc1 : v2 = 1
    · replace hf := ifp hc1 hf
      refine lv_tableIn (tgt := 47) hx hb dX0_fact_1 (by rw [hc1]; decide) (by rw [hc1]; decide) (by rw [hc1]; rfl) (by decide) ?_
      refine lv_aload_n hx hb dX0_fact_47 rfl (lv_at hl 0 rfl) ?_
      refine gf_X0_15 ho X hW dX0_fact_48 ?_
      refine lv_iload_n hx hb dX0_fact_51 rfl (lv_at hl 1 rfl) ?_
      obtain ⟨hi52, hf⟩ := grd_some hf
      refine g_iald X hW (iA_st2 ho) hi52 dX0_fact_52 ?_
      exact g_iret X hr hlk hQ hW dX0_fact_53 (rd_some hf)
    · replace hf := ifn hc1 hf
      by_cases hc2 : v2 = 2
      · replace hf := ifp hc2 hf
        refine lv_tableIn (tgt := 54) hx hb dX0_fact_1 (by rw [hc2]; decide) (by rw [hc2]; decide) (by rw [hc2]; rfl) (by decide) ?_
        refine lv_aload_n hx hb dX0_fact_54 rfl (lv_at hl 0 rfl) ?_
        refine gf_X0_18 ho X hW dX0_fact_55 ?_
        refine lv_iload_n hx hb dX0_fact_58 rfl (lv_at hl 1 rfl) ?_
        obtain ⟨hi59, hf⟩ := grd_some hf
        refine g_iald X hW (iA_st3 ho) hi59 dX0_fact_59 ?_
        exact g_iret X hr hlk hQ hW dX0_fact_60 (rd_some hf)
      · replace hf := ifn hc2 hf
        by_cases hc3 : v2 = 3
        · replace hf := ifp hc3 hf
          refine lv_tableIn (tgt := 61) hx hb dX0_fact_1 (by rw [hc3]; decide) (by rw [hc3]; decide) (by rw [hc3]; rfl) (by decide) ?_
          refine lv_aload_n hx hb dX0_fact_61 rfl (lv_at hl 0 rfl) ?_
          refine gf_X0_21 ho X hW dX0_fact_62 ?_
          refine lv_iload_n hx hb dX0_fact_65 rfl (lv_at hl 1 rfl) ?_
          obtain ⟨hi66, hf⟩ := grd_some hf
          refine g_iald X hW (iA_st4 ho) hi66 dX0_fact_66 ?_
          exact g_iret X hr hlk hQ hW dX0_fact_67 (rd_some hf)
        · replace hf := ifn hc3 hf
          by_cases hc4 : v2 = 4
          · replace hf := ifp hc4 hf
            refine lv_tableIn (tgt := 68) hx hb dX0_fact_1 (by rw [hc4]; decide) (by rw [hc4]; decide) (by rw [hc4]; rfl) (by decide) ?_
            refine lv_aload_n hx hb dX0_fact_68 rfl (lv_at hl 0 rfl) ?_
            refine gf_X0_24 ho X hW dX0_fact_69 ?_
            refine lv_iload_n hx hb dX0_fact_72 rfl (lv_at hl 1 rfl) ?_
            obtain ⟨hi73, hf⟩ := grd_some hf
            refine g_iald X hW (iA_st5 ho) hi73 dX0_fact_73 ?_
            exact g_iret X hr hlk hQ hW dX0_fact_74 (rd_some hf)
          · replace hf := ifn hc4 hf
            by_cases hc5 : v2 = 5
            · replace hf := ifp hc5 hf
              refine lv_tableIn (tgt := 75) hx hb dX0_fact_1 (by rw [hc5]; decide) (by rw [hc5]; decide) (by rw [hc5]; rfl) (by decide) ?_
              refine lv_aload_n hx hb dX0_fact_75 rfl (lv_at hl 0 rfl) ?_
              refine lv_iload_n hx hb dX0_fact_76 rfl (lv_at hl 1 rfl) ?_
              obtain ⟨r77, h77, hf⟩ := bR_some hf
              refine g_calliV X hl.1 hZ hA hW (c_X0_isReady l D cy ad ho h77) cw_X0_isReady ql_X0_65 (iO_st ho) rfl (by decide) rfl (Nat.le_of_ble_eq_true rfl) dX0_fact_77 (fun H locs hW => ?_)
              refine lv_if_eq (tgt := 87) hx hb dX0_fact_80 (by decide) (fun hc => ?_) (fun hc => ?_)
              · replace hf := ifp hc hf
                refine lv_iconst (v := 0) hx hb dX0_fact_87 (by decide) ?_
                exact g_iret X hr hlk hQ hW dX0_fact_88 (rd_some hf)
              · replace hf := ifn hc hf
                refine lv_iconst (v := 1) hx hb dX0_fact_83 (by decide) ?_
                refine lv_goto (tgt := 88) hx hb dX0_fact_84 (by decide) ?_
                exact g_iret X hr hlk hQ hW dX0_fact_88 (rd_some hf)
            · replace hf := ifn hc5 hf
              refine lv_tableOut (tgt := 89) hx hb dX0_fact_1 (by have q0 := sw_ne (a := 0) hc0 (by decide); have q1 := sw_ne (a := 1) hc1 (by decide); have q2 := sw_ne (a := 2) hc2 (by decide); have q3 := sw_ne (a := 3) hc3 (by decide); have q4 := sw_ne (a := 4) hc4 (by decide); have q5 := sw_ne (a := 5) hc5 (by decide); omega) (by decide) ?_
              refine lv_aload_n hx hb dX0_fact_89 rfl (lv_at hl 0 rfl) ?_
              refine lv_aload_n hx hb dX0_fact_90 rfl (lv_at hl 0 rfl) ?_
              refine gf_X0_9 ho X hW dX0_fact_91 ?_
              refine lv_iload_n hx hb dX0_fact_94 rfl (lv_at hl 1 rfl) ?_
              obtain ⟨hi95, hf⟩ := grd_some hf
              refine g_iald X hW (iA_st1 ho) hi95 dX0_fact_95 ?_
              refine lv_iload_n hx hb dX0_fact_96 rfl (lv_at hl 1 rfl) ?_
              refine lv_aload_n hx hb dX0_fact_97 rfl (lv_at hl 0 rfl) ?_
              refine lv_iload_n hx hb dX0_fact_98 rfl (lv_at hl 1 rfl) ?_
              obtain ⟨r99, h99, hf⟩ := bR_some hf
              refine g_calliV X hl.1 hZ hA hW (c_X0_cameTo l D cy ad ho h99) cw_X0_cameTo ql_X0_75 (iO_st ho) rfl (by decide) rfl (Nat.le_of_ble_eq_true rfl) dX0_fact_99 (fun H locs hW => ?_)
              obtain ⟨r102, h102, hf⟩ := bR_some hf
              refine g_calliV X hl.1 hZ hA hW (c_X0_sentAs l D cy ad ho h102) cw_X0_sentAs ql_X0_68 (iO_st ho) rfl (by decide) rfl (Nat.le_of_ble_eq_true rfl) dX0_fact_102 (fun H locs hW => ?_)
              exact g_iret X hr hlk hQ hW dX0_fact_105 (rd_some hf)

def f_X0_isOf (o : Nat) (v1 : Int32) (v2 : Int32) (M : Mem) : Option Int32 :=
  (grd (inb v1 7) (if (M.1 (o + 1) (ix v1)) = v2 then (some 1) else (jn (fun (k22 : Option Int32) => (if v2 = 1 then (if (M.1 (o + 1) (ix v1)) = 4 then (some 1) else k22) else k22)) ((if v2 = 2 then (if (M.1 (o + 1) (ix v1)) = 5 then (some 1) else (some 0)) else (some 0))))))
set_option maxHeartbeats 4000000 in
set_option maxRecDepth 100000 in
theorem c_X0_isOf (l : Launch) (D : va_G) (cy : Nat → ClassId) (ad : Nat → Nat) {o : Nat} (ho : isSt o) {v1 : Int32} {v2 : Int32} {M : Mem} {r : Int32} (hf : f_X0_isOf o v1 v2 M = some r) : MetX l 43 (CC ad cy) D cy ad yX0_isOf cX0_isOf 4 (some .boolean) 0 [.ref (ad o), .int v1, .int v2] M (fun A => QI r M 43 (CC ad cy) D cy ad A) := by
  refine MetX.of (own := RX0) (by decide) rfl (Nat.le_of_ble_eq_true rfl) ?_
  intro p e s m below meth c A Q ls X hr hlk hZ hA hQ hW hl
  have hl : lv_has ls 4 [(0, .ref (ad o)), (1, .int v1), (2, .int v2)] := hl
  have hx := X.1
  have hb := X.2.1
  obtain ⟨H, hH⟩ : ∃ H, H = s.heap := ⟨_, rfl⟩
  obtain ⟨locs, hlo⟩ : ∃ q : List Loc, q = [] := ⟨_, rfl⟩
  have hW : Wd D 43 ad (CC ad cy) A s.heap M H locs := by rw [hH, hlo]; exact hW
  suffices hh : W p l e (rmD 0) s m ([.ref (ad o), .int v1, .int v2] : List Value).toArray below meth c H locs 0 0 Q (F0 m 0 ls []) by rw [hH, hlo] at hh; exact hh
  unfold f_X0_isOf at hf
  refine lv_aload_n hx hb dX0_isOf_0 rfl (lv_at hl 0 rfl) ?_
  refine gf_X0_9 ho X hW dX0_isOf_1 ?_
  refine lv_iload_n hx hb dX0_isOf_4 rfl (lv_at hl 1 rfl) ?_
  obtain ⟨hi5, hf⟩ := grd_some hf
  refine g_iald X hW (iA_st1 ho) hi5 dX0_isOf_5 ?_
  refine lv_istore_n (lv' := [(3, .int (M.1 (o + 1) (ix v1))), (0, .ref (ad o)), (1, .int v1), (2, .int v2)]) hx hb dX0_isOf_6 rfl hl (by decide) rfl (fun ls hl => ?_)
  refine lv_iload_n hx hb dX0_isOf_7 rfl (lv_at hl 0 rfl) ?_
  refine lv_iload_n hx hb dX0_isOf_8 rfl (lv_at hl 3 rfl) ?_
  refine lv_icmp_eq (tgt := 32) hx hb dX0_isOf_9 (by decide) (fun hc => ?_) (fun hc => ?_)
  · replace hf := ifp hc hf
    refine lv_iconst (v := 1) hx hb dX0_isOf_32 (by decide) ?_
    refine lv_goto (tgt := 37) hx hb dX0_isOf_33 (by decide) ?_
    exact g_zret X hr hlk hQ hW dX0_isOf_37 (by decide) (rd_some hf)
  · replace hf := ifn hc hf
    refine lv_iload_n hx hb dX0_isOf_12 rfl (lv_at hl 3 rfl) ?_
    refine lv_iconst (v := 1) hx hb dX0_isOf_13 (by decide) ?_
    obtain ⟨k22, hk22, hf⟩ := jn_some0 hf
    have hJ22 : ∀  (H : Heap) (locs : List Loc) (ls : Array Slot), k22 = some r → Wd D 43 ad (CC ad cy) A s.heap M H locs → lv_has ls 4 [(2, .int v2), (3, .int (M.1 (o + 1) (ix v1)))] → W p l e (rmD 0) s m ([.ref (ad o), .int v1, .int v2] : List Value).toArray below meth c H locs 0 0 Q (F0 m 22 ls []) := by
      intro  H locs ls hf hW hl
      rw [hk22] at hf
      refine lv_iload_n hx hb dX0_isOf_22 rfl (lv_at hl 0 rfl) ?_
      refine lv_iconst (v := 2) hx hb dX0_isOf_23 (by decide) ?_
      refine lv_icmp_ne (tgt := 36) hx hb dX0_isOf_24 (by decide) (fun hc => ?_) (fun hc => ?_)
      · replace hf := ifn hc hf
        refine lv_iconst (v := 0) hx hb dX0_isOf_36 (by decide) ?_
        exact g_zret X hr hlk hQ hW dX0_isOf_37 (by decide) (rd_some hf)
      · replace hf := ifp hc hf
        refine lv_iload_n hx hb dX0_isOf_27 rfl (lv_at hl 1 rfl) ?_
        refine lv_iconst (v := 5) hx hb dX0_isOf_28 (by decide) ?_
        refine lv_icmp_ne (tgt := 36) hx hb dX0_isOf_29 (by decide) (fun hc => ?_) (fun hc => ?_)
        · replace hf := ifn hc hf
          refine lv_iconst (v := 0) hx hb dX0_isOf_36 (by decide) ?_
          exact g_zret X hr hlk hQ hW dX0_isOf_37 (by decide) (rd_some hf)
        · replace hf := ifp hc hf
          refine lv_iconst (v := 1) hx hb dX0_isOf_32 (by decide) ?_
          refine lv_goto (tgt := 37) hx hb dX0_isOf_33 (by decide) ?_
          exact g_zret X hr hlk hQ hW dX0_isOf_37 (by decide) (rd_some hf)
    refine lv_icmp_ne (tgt := 22) hx hb dX0_isOf_14 (by decide) (fun hc => ?_) (fun hc => ?_)
    · replace hf := ifn hc hf
      exact hJ22  H locs ls hf hW (lv_sub hl [3, 0] rfl)
    · replace hf := ifp hc hf
      refine lv_iload_n hx hb dX0_isOf_17 rfl (lv_at hl 0 rfl) ?_
      refine lv_iconst (v := 4) hx hb dX0_isOf_18 (by decide) ?_
      refine lv_icmp_eq (tgt := 32) hx hb dX0_isOf_19 (by decide) (fun hc => ?_) (fun hc => ?_)
      · replace hf := ifp hc hf
        refine lv_iconst (v := 1) hx hb dX0_isOf_32 (by decide) ?_
        refine lv_goto (tgt := 37) hx hb dX0_isOf_33 (by decide) ?_
        exact g_zret X hr hlk hQ hW dX0_isOf_37 (by decide) (rd_some hf)
      · replace hf := ifn hc hf
        exact hJ22  H locs ls hf hW (lv_sub hl [3, 0] rfl)

def f_X0_tells (o : Nat) (v1 : Int32) (v2 : Int32) (M : Mem) : Option Int32 :=
  (bR (f_X0_cameTo o v1 M) (fun r2 => (if v2 = 1 then (bR (f_X0_ticksTillStruck o v1 M) (fun r38 => (some r38))) else (if v2 = 2 then (grd (inb v1 7) (bR (f_X0_sentAs o (M.1 (o + 1) (ix v1)) v1 1 M) (fun r51 => (grd (inb v1 7) (bR (f_X0_sentAs o (M.1 (o + 1) (ix v1)) v1 0 M) (fun r63 => (if r51 = r63 then (some 1) else (some 0)))))))) else (if v2 = 3 then (grd (inb v1 7) (some (2 * (M.1 (o + 2) (ix v1))))) else (if v2 = 4 then (bR (f_X0_sentAs o 4 v1 r2 M) (fun r88 => (bR (f_X0_sentAs o 1 v1 r2 M) (fun r95 => (if r88 = r95 then (some 0) else (some 1)))))) else (bR (f_X0_sentAs o 5 v1 r2 M) (fun r111 => (bR (f_X0_sentAs o 2 v1 r2 M) (fun r118 => (if r111 = r118 then (some 0) else (some 1))))))))))))
set_option maxHeartbeats 4000000 in
set_option maxRecDepth 100000 in
theorem c_X0_tells (l : Launch) (D : va_G) (cy : Nat → ClassId) (ad : Nat → Nat) {o : Nat} (ho : isSt o) {v1 : Int32} {v2 : Int32} {M : Mem} {r : Int32} (hf : f_X0_tells o v1 v2 M = some r) : MetX l 43 (CC ad cy) D cy ad yX0_tells cX0_tells 4 (some .int) 3 [.ref (ad o), .int v1, .int v2] M (fun A => QI r M 43 (CC ad cy) D cy ad A) := by
  refine MetX.of (own := RX0) (by decide) rfl (Nat.le_of_ble_eq_true rfl) ?_
  intro p e s m below meth c A Q ls X hr hlk hZ hA hQ hW hl
  have hl : lv_has ls 4 [(0, .ref (ad o)), (1, .int v1), (2, .int v2)] := hl
  have hx := X.1
  have hb := X.2.1
  obtain ⟨H, hH⟩ : ∃ H, H = s.heap := ⟨_, rfl⟩
  obtain ⟨locs, hlo⟩ : ∃ q : List Loc, q = [] := ⟨_, rfl⟩
  have hW : Wd D 43 ad (CC ad cy) A s.heap M H locs := by rw [hH, hlo]; exact hW
  suffices hh : W p l e (rmD 3) s m ([.ref (ad o), .int v1, .int v2] : List Value).toArray below meth c H locs 0 0 Q (F0 m 0 ls []) by rw [hH, hlo] at hh; exact hh
  unfold f_X0_tells at hf
  refine lv_aload_n hx hb dX0_tells_0 rfl (lv_at hl 0 rfl) ?_
  refine lv_iload_n hx hb dX0_tells_1 rfl (lv_at hl 1 rfl) ?_
  obtain ⟨r2, h2, hf⟩ := bR_some hf
  refine g_calliV X hl.1 hZ hA hW (c_X0_cameTo l D cy ad ho h2) cw_X0_cameTo ql_X0_75 (iO_st ho) rfl (by decide) rfl (Nat.le_of_ble_eq_true rfl) dX0_tells_2 (fun H locs hW => ?_)
  refine lv_istore_n (lv' := [(3, .int r2), (0, .ref (ad o)), (1, .int v1), (2, .int v2)]) hx hb dX0_tells_5 rfl hl (by decide) rfl (fun ls hl => ?_)
  refine lv_iload_n hx hb dX0_tells_6 rfl (lv_at hl 3 rfl) ?_
  by_cases hc1 : v2 = 1
  · replace hf := ifp hc1 hf
    refine lv_tableIn (tgt := 36) hx hb dX0_tells_7 (by rw [hc1]; decide) (by rw [hc1]; decide) (by rw [hc1]; rfl) (by decide) ?_
    refine lv_aload_n hx hb dX0_tells_36 rfl (lv_at hl 1 rfl) ?_
    refine lv_iload_n hx hb dX0_tells_37 rfl (lv_at hl 2 rfl) ?_
    obtain ⟨r38, h38, hf⟩ := bR_some hf
    refine g_calliV X hl.1 hZ hA hW (c_X0_ticksTillStruck l D cy ad ho h38) cw_X0_ticksTillStruck ql_X0_72 (iO_st ho) rfl (by decide) rfl (Nat.le_of_ble_eq_true rfl) dX0_tells_38 (fun H locs hW => ?_)
    exact g_iret X hr hlk hQ hW dX0_tells_41 (rd_some hf)
  · replace hf := ifn hc1 hf
    by_cases hc2 : v2 = 2
    · replace hf := ifp hc2 hf
      refine lv_tableIn (tgt := 42) hx hb dX0_tells_7 (by rw [hc2]; decide) (by rw [hc2]; decide) (by rw [hc2]; rfl) (by decide) ?_
      refine lv_aload_n hx hb dX0_tells_42 rfl (lv_at hl 1 rfl) ?_
      refine lv_aload_n hx hb dX0_tells_43 rfl (lv_at hl 1 rfl) ?_
      refine gf_X0_9 ho X hW dX0_tells_44 ?_
      refine lv_iload_n hx hb dX0_tells_47 rfl (lv_at hl 2 rfl) ?_
      obtain ⟨hi48, hf⟩ := grd_some hf
      refine g_iald X hW (iA_st1 ho) hi48 dX0_tells_48 ?_
      refine lv_iload_n hx hb dX0_tells_49 rfl (lv_at hl 2 rfl) ?_
      refine lv_iconst (v := 1) hx hb dX0_tells_50 (by decide) ?_
      obtain ⟨r51, h51, hf⟩ := bR_some hf
      refine g_calliV X hl.1 hZ hA hW (c_X0_sentAs l D cy ad ho h51) cw_X0_sentAs ql_X0_68 (iO_st ho) rfl (by decide) rfl (Nat.le_of_ble_eq_true rfl) dX0_tells_51 (fun H locs hW => ?_)
      refine lv_aload_n hx hb dX0_tells_54 rfl (lv_at hl 1 rfl) ?_
      refine lv_aload_n hx hb dX0_tells_55 rfl (lv_at hl 1 rfl) ?_
      refine gf_X0_9 ho X hW dX0_tells_56 ?_
      refine lv_iload_n hx hb dX0_tells_59 rfl (lv_at hl 2 rfl) ?_
      obtain ⟨hi60, hf⟩ := grd_some hf
      refine g_iald X hW (iA_st1 ho) hi60 dX0_tells_60 ?_
      refine lv_iload_n hx hb dX0_tells_61 rfl (lv_at hl 2 rfl) ?_
      refine lv_iconst (v := 0) hx hb dX0_tells_62 (by decide) ?_
      obtain ⟨r63, h63, hf⟩ := bR_some hf
      refine g_calliV X hl.1 hZ hA hW (c_X0_sentAs l D cy ad ho h63) cw_X0_sentAs ql_X0_68 (iO_st ho) rfl (by decide) rfl (Nat.le_of_ble_eq_true rfl) dX0_tells_63 (fun H locs hW => ?_)
      refine lv_icmp_ne (tgt := 73) hx hb dX0_tells_66 (by decide) (fun hc => ?_) (fun hc => ?_)
      · replace hf := ifn hc hf
        refine lv_iconst (v := 0) hx hb dX0_tells_73 (by decide) ?_
        exact g_iret X hr hlk hQ hW dX0_tells_74 (rd_some hf)
      · replace hf := ifp hc hf
        refine lv_iconst (v := 1) hx hb dX0_tells_69 (by decide) ?_
        refine lv_goto (tgt := 74) hx hb dX0_tells_70 (by decide) ?_
        exact g_iret X hr hlk hQ hW dX0_tells_74 (rd_some hf)
    · replace hf := ifn hc2 hf
      by_cases hc3 : v2 = 3
      · replace hf := ifp hc3 hf
        refine lv_tableIn (tgt := 75) hx hb dX0_tells_7 (by rw [hc3]; decide) (by rw [hc3]; decide) (by rw [hc3]; rfl) (by decide) ?_
        refine lv_iconst (v := 2) hx hb dX0_tells_75 (by decide) ?_
        refine lv_aload_n hx hb dX0_tells_76 rfl (lv_at hl 1 rfl) ?_
        refine gf_X0_15 ho X hW dX0_tells_77 ?_
        refine lv_iload_n hx hb dX0_tells_80 rfl (lv_at hl 2 rfl) ?_
        obtain ⟨hi81, hf⟩ := grd_some hf
        refine g_iald X hW (iA_st2 ho) hi81 dX0_tells_81 ?_
        refine lv_imul hx hb dX0_tells_82 ?_
        exact g_iret X hr hlk hQ hW dX0_tells_83 (rd_some hf)
      · replace hf := ifn hc3 hf
        by_cases hc4 : v2 = 4
        · replace hf := ifp hc4 hf
          refine lv_tableIn (tgt := 84) hx hb dX0_tells_7 (by rw [hc4]; decide) (by rw [hc4]; decide) (by rw [hc4]; rfl) (by decide) ?_
          refine lv_aload_n hx hb dX0_tells_84 rfl (lv_at hl 1 rfl) ?_
          refine lv_iconst (v := 4) hx hb dX0_tells_85 (by decide) ?_
          refine lv_iload_n hx hb dX0_tells_86 rfl (lv_at hl 2 rfl) ?_
          refine lv_iload_n hx hb dX0_tells_87 rfl (lv_at hl 0 rfl) ?_
          obtain ⟨r88, h88, hf⟩ := bR_some hf
          refine g_calliV X hl.1 hZ hA hW (c_X0_sentAs l D cy ad ho h88) cw_X0_sentAs ql_X0_68 (iO_st ho) rfl (by decide) rfl (Nat.le_of_ble_eq_true rfl) dX0_tells_88 (fun H locs hW => ?_)
          refine lv_aload_n hx hb dX0_tells_91 rfl (lv_at hl 1 rfl) ?_
          refine lv_iconst (v := 1) hx hb dX0_tells_92 (by decide) ?_
          refine lv_iload_n hx hb dX0_tells_93 rfl (lv_at hl 2 rfl) ?_
          refine lv_iload_n hx hb dX0_tells_94 rfl (lv_at hl 0 rfl) ?_
          obtain ⟨r95, h95, hf⟩ := bR_some hf
          refine g_calliV X hl.1 hZ hA hW (c_X0_sentAs l D cy ad ho h95) cw_X0_sentAs ql_X0_68 (iO_st ho) rfl (by decide) rfl (Nat.le_of_ble_eq_true rfl) dX0_tells_95 (fun H locs hW => ?_)
          refine lv_icmp_eq (tgt := 105) hx hb dX0_tells_98 (by decide) (fun hc => ?_) (fun hc => ?_)
          · replace hf := ifp hc hf
            refine lv_iconst (v := 0) hx hb dX0_tells_105 (by decide) ?_
            exact g_iret X hr hlk hQ hW dX0_tells_106 (rd_some hf)
          · replace hf := ifn hc hf
            refine lv_iconst (v := 1) hx hb dX0_tells_101 (by decide) ?_
            refine lv_goto (tgt := 106) hx hb dX0_tells_102 (by decide) ?_
            exact g_iret X hr hlk hQ hW dX0_tells_106 (rd_some hf)
        · replace hf := ifn hc4 hf
          refine lv_tableOut (tgt := 107) hx hb dX0_tells_7 (by have q1 := sw_ne (a := 1) hc1 (by decide); have q2 := sw_ne (a := 2) hc2 (by decide); have q3 := sw_ne (a := 3) hc3 (by decide); have q4 := sw_ne (a := 4) hc4 (by decide); omega) (by decide) ?_
          refine lv_aload_n hx hb dX0_tells_107 rfl (lv_at hl 1 rfl) ?_
          refine lv_iconst (v := 5) hx hb dX0_tells_108 (by decide) ?_
          refine lv_iload_n hx hb dX0_tells_109 rfl (lv_at hl 2 rfl) ?_
          refine lv_iload_n hx hb dX0_tells_110 rfl (lv_at hl 0 rfl) ?_
          obtain ⟨r111, h111, hf⟩ := bR_some hf
          refine g_calliV X hl.1 hZ hA hW (c_X0_sentAs l D cy ad ho h111) cw_X0_sentAs ql_X0_68 (iO_st ho) rfl (by decide) rfl (Nat.le_of_ble_eq_true rfl) dX0_tells_111 (fun H locs hW => ?_)
          refine lv_aload_n hx hb dX0_tells_114 rfl (lv_at hl 1 rfl) ?_
          refine lv_iconst (v := 2) hx hb dX0_tells_115 (by decide) ?_
          refine lv_iload_n hx hb dX0_tells_116 rfl (lv_at hl 2 rfl) ?_
          refine lv_iload_n hx hb dX0_tells_117 rfl (lv_at hl 0 rfl) ?_
          obtain ⟨r118, h118, hf⟩ := bR_some hf
          refine g_calliV X hl.1 hZ hA hW (c_X0_sentAs l D cy ad ho h118) cw_X0_sentAs ql_X0_68 (iO_st ho) rfl (by decide) rfl (Nat.le_of_ble_eq_true rfl) dX0_tells_118 (fun H locs hW => ?_)
          refine lv_icmp_eq (tgt := 128) hx hb dX0_tells_121 (by decide) (fun hc => ?_) (fun hc => ?_)
          · replace hf := ifp hc hf
            refine lv_iconst (v := 0) hx hb dX0_tells_128 (by decide) ?_
            exact g_iret X hr hlk hQ hW dX0_tells_129 (rd_some hf)
          · replace hf := ifn hc hf
            refine lv_iconst (v := 1) hx hb dX0_tells_124 (by decide) ?_
            refine lv_goto (tgt := 129) hx hb dX0_tells_125 (by decide) ?_
            exact g_iret X hr hlk hQ hW dX0_tells_129 (rd_some hf)

def f_X0_letPass_L44 (o : Nat) (k107 : Mem → Option Mem) : Nat → Int32 → Mem → Option Mem
  | 0, _, _ => none
  | n + 1, v1_L44, M_L44 => (if (M_L44.1 o 6) ≤ v1_L44 then (k107 M_L44) else (bR (f_X0_isReady o v1_L44 M_L44) (fun r54 => (jn (fun (k101 : Mem → Option Mem) => (if r54 = 0 then (k101 M_L44) else (grd (inb v1_L44 7) (grd (inb v1_L44 7) (grd (inb v1_L44 7) (bR (f_X0_sentAs o (M_L44.1 (o + 1) (ix v1_L44)) v1_L44 (M_L44.1 (o + 6) (ix v1_L44)) M_L44) (fun r87 => (grd (inb v1_L44 7) (grd (inb v1_L44 7) (lt (sI M_L44 (o + 4) (ix v1_L44) ((shr (M_L44.1 (o + 4) (ix v1_L44)) 1) ||| (shl r87 ((M_L44.1 (o + 2) (ix v1_L44)) - 1)))) (fun M100 => (k101 M100)))))))))))) (fun  (M_101j : Mem) => (f_X0_letPass_L44 o k107 n (v1_L44 + 1) M_101j))))))
def f_X0_letPass_L2 (o : Nat) (k42 : Mem → Option Mem) : Nat → Int32 → Mem → Option Mem
  | 0, _, _ => none
  | n + 1, v1_L2, M_L2 => (if (M_L2.1 o 6) ≤ v1_L2 then (k42 M_L2) else (grd (inb v1_L2 7) (bR (f_X0_has o (M_L2.1 (o + 5) (ix v1_L2)) M_L2) (fun r19 => (jn (fun (k36 : Mem → Option Mem) => (if r19 = 0 then (k36 M_L2) else (bR (f_X0_comesOut o v1_L2 M_L2) (fun r32 => (grd (inb (M_L2.1 (o + 5) (ix v1_L2)) 7) (lt (sI M_L2 (o + 6) (ix (M_L2.1 (o + 5) (ix v1_L2))) r32) (fun M35 => (k36 M35)))))))) (fun  (M_36j : Mem) => (f_X0_letPass_L2 o k42 n (v1_L2 + 1) M_36j)))))))
def f_X0_letPass (o : Nat) (M : Mem) : Option Mem :=
  (jn (fun (k42 : Mem → Option Mem) => (f_X0_letPass_L2 o k42 FU 0 M)) (fun  (M_42x : Mem) => (jn (fun (k107 : Mem → Option Mem) => (f_X0_letPass_L44 o k107 FU 0 M_42x)) (fun  (M_107x : Mem) => (lt (sI M_107x o 7 ((M_107x.1 o 7) + 1)) (fun M114 => (some M114)))))))
set_option maxHeartbeats 4000000 in
set_option maxRecDepth 100000 in
theorem c_X0_letPass (l : Launch) (D : va_G) (cy : Nat → ClassId) (ad : Nat → Nat) {o : Nat} (ho : isSt o)  {M M' : Mem} (hf : f_X0_letPass o M = some M') : MetX l 43 (CC ad cy) D cy ad yX0_letPass cX0_letPass 3 none 2 [.ref (ad o)] M (fun A => QV M' 43 (CC ad cy) D cy ad A) := by
  refine MetX.of (own := RX0) (by decide) rfl (Nat.le_of_ble_eq_true rfl) ?_
  intro p e s m below meth c A Q ls X hr hlk hZ hA hQ hW hl
  have hl : lv_has ls 3 [(0, .ref (ad o))] := hl
  have hx := X.1
  have hb := X.2.1
  have hL44 : ∀  (k107 : Mem → Option Mem) (hJ107 : ∀  (M_107x : Mem) (H : Heap) (locs : List Loc) (ls : Array Slot), k107 M_107x = some M' → Wd D 43 ad (CC ad cy) A s.heap M_107x H locs → lv_has ls 3 [(0, .ref (ad o))] → W p l e (rmD 2) s m ([.ref (ad o)] : List Value).toArray below meth c H locs 0 0 Q (F0 m 107 ls [])) (n : Nat) (v1_L44 : Int32) (M_L44 : Mem) (H : Heap) (locs : List Loc) (ls : Array Slot), f_X0_letPass_L44 o k107 n v1_L44 M_L44 = some M' → Wd D 43 ad (CC ad cy) A s.heap M_L44 H locs → lv_has ls 3 [(0, .ref (ad o)), (1, .int v1_L44)] → W p l e (rmD 2) s m ([.ref (ad o)] : List Value).toArray below meth c H locs 0 0 Q (F0 m 44 ls []) := by
    intro k107 hJ107 n
    induction n with
    | zero =>
      intro v1_L44 M_L44 H locs ls hf
      cases (show (none : Option Mem) = some M' from hf)
    | succ n ih =>
      intro v1_L44 M_L44 H locs ls hf hW hl
      rw [f_X0_letPass_L44] at hf
      refine lv_iload_n hx hb dX0_letPass_44 rfl (lv_at hl 1 rfl) ?_
      refine lv_aload_n hx hb dX0_letPass_45 rfl (lv_at hl 0 rfl) ?_
      refine gf_X0_30 ho X hW dX0_letPass_46 ?_
      refine lv_icmp_ge (tgt := 107) hx hb dX0_letPass_49 (by decide) (fun hc => ?_) (fun hc => ?_)
      · replace hf := ifp hc hf
        exact hJ107 M_L44 H locs ls hf hW (lv_sub hl [0] rfl)
      · replace hf := ifn hc hf
        refine lv_aload_n hx hb dX0_letPass_52 rfl (lv_at hl 0 rfl) ?_
        refine lv_iload_n hx hb dX0_letPass_53 rfl (lv_at hl 1 rfl) ?_
        obtain ⟨r54, h54, hf⟩ := bR_some hf
        refine g_calliV X hl.1 hZ hA hW (c_X0_isReady l D cy ad ho h54) cw_X0_isReady ql_X0_65 (iO_st ho) rfl (by decide) rfl (Nat.le_of_ble_eq_true rfl) dX0_letPass_54 (fun H locs hW => ?_)
        obtain ⟨k101, hk101, hf⟩ := jn_some1 hf
        have hJ101 : ∀  (M_101j : Mem) (H : Heap) (locs : List Loc) (ls : Array Slot), k101 M_101j = some M' → Wd D 43 ad (CC ad cy) A s.heap M_101j H locs → lv_has ls 3 [(0, .ref (ad o)), (1, .int v1_L44)] → W p l e (rmD 2) s m ([.ref (ad o)] : List Value).toArray below meth c H locs 0 0 Q (F0 m 101 ls []) := by
          intro M_101j H locs ls hf hW hl
          rw [hk101] at hf
          refine lv_iinc (v := (v1_L44 + 1)) (lv' := [(1, .int (v1_L44 + 1)), (0, .ref (ad o))]) hx hb dX0_letPass_101 hl (k := 1) rfl rfl (by decide) rfl (fun ls hl => ?_)
          refine lv_goto (tgt := 44) hx hb dX0_letPass_104 (by decide) ?_
          exact ih (v1_L44 + 1) M_101j H locs ls hf hW (lv_sub hl [1, 0] rfl)
        refine lv_if_eq (tgt := 101) hx hb dX0_letPass_57 (by decide) (fun hc => ?_) (fun hc => ?_)
        · replace hf := ifp hc hf
          exact hJ101 M_L44 H locs ls hf hW (lv_sub hl [0, 1] rfl)
        · replace hf := ifn hc hf
          refine lv_aload_n hx hb dX0_letPass_60 rfl (lv_at hl 0 rfl) ?_
          refine gf_X0_21 ho X hW dX0_letPass_61 ?_
          refine lv_iload_n hx hb dX0_letPass_64 rfl (lv_at hl 1 rfl) ?_
          refine lv_aload_n hx hb dX0_letPass_65 rfl (lv_at hl 0 rfl) ?_
          refine gf_X0_21 ho X hW dX0_letPass_66 ?_
          refine lv_iload_n hx hb dX0_letPass_69 rfl (lv_at hl 1 rfl) ?_
          obtain ⟨hi70, hf⟩ := grd_some hf
          refine g_iald X hW (iA_st4 ho) hi70 dX0_letPass_70 ?_
          refine lv_iconst (v := 1) hx hb dX0_letPass_71 (by decide) ?_
          refine r_ishr hx hb dX0_letPass_72 ?_
          refine lv_aload_n hx hb dX0_letPass_73 rfl (lv_at hl 0 rfl) ?_
          refine lv_aload_n hx hb dX0_letPass_74 rfl (lv_at hl 0 rfl) ?_
          refine gf_X0_9 ho X hW dX0_letPass_75 ?_
          refine lv_iload_n hx hb dX0_letPass_78 rfl (lv_at hl 1 rfl) ?_
          obtain ⟨hi79, hf⟩ := grd_some hf
          refine g_iald X hW (iA_st1 ho) hi79 dX0_letPass_79 ?_
          refine lv_iload_n hx hb dX0_letPass_80 rfl (lv_at hl 1 rfl) ?_
          refine lv_aload_n hx hb dX0_letPass_81 rfl (lv_at hl 0 rfl) ?_
          refine gf_X0_27 ho X hW dX0_letPass_82 ?_
          refine lv_iload_n hx hb dX0_letPass_85 rfl (lv_at hl 1 rfl) ?_
          obtain ⟨hi86, hf⟩ := grd_some hf
          refine g_iald X hW (iA_st6 ho) hi86 dX0_letPass_86 ?_
          obtain ⟨r87, h87, hf⟩ := bR_some hf
          refine g_calliV X hl.1 hZ hA hW (c_X0_sentAs l D cy ad ho h87) cw_X0_sentAs ql_X0_68 (iO_st ho) rfl (by decide) rfl (Nat.le_of_ble_eq_true rfl) dX0_letPass_87 (fun H locs hW => ?_)
          refine lv_aload_n hx hb dX0_letPass_90 rfl (lv_at hl 0 rfl) ?_
          refine gf_X0_15 ho X hW dX0_letPass_91 ?_
          refine lv_iload_n hx hb dX0_letPass_94 rfl (lv_at hl 1 rfl) ?_
          obtain ⟨hi95, hf⟩ := grd_some hf
          refine g_iald X hW (iA_st2 ho) hi95 dX0_letPass_95 ?_
          refine lv_iconst (v := 1) hx hb dX0_letPass_96 (by decide) ?_
          refine lv_isub hx hb dX0_letPass_97 ?_
          refine r_ishl hx hb dX0_letPass_98 ?_
          refine lv_ior hx hb dX0_letPass_99 ?_
          obtain ⟨hi100, hf⟩ := grd_some hf
          refine g_iast X hW (iA_st4 ho) hi100 dX0_letPass_100 (fun H locs hW => ?_)
          obtain ⟨M100, e100, hf⟩ := lt_some hf
          have hW : Wd D 43 ad (CC ad cy) A s.heap M100 H locs := by rw [e100]; exact hW
          exact hJ101 M100 H locs ls hf hW (lv_sub hl [0, 1] rfl)
  have hL2 : ∀  (k42 : Mem → Option Mem) (hJ42 : ∀  (M_42x : Mem) (H : Heap) (locs : List Loc) (ls : Array Slot), k42 M_42x = some M' → Wd D 43 ad (CC ad cy) A s.heap M_42x H locs → lv_has ls 3 [(0, .ref (ad o))] → W p l e (rmD 2) s m ([.ref (ad o)] : List Value).toArray below meth c H locs 0 0 Q (F0 m 42 ls [])) (n : Nat) (v1_L2 : Int32) (M_L2 : Mem) (H : Heap) (locs : List Loc) (ls : Array Slot), f_X0_letPass_L2 o k42 n v1_L2 M_L2 = some M' → Wd D 43 ad (CC ad cy) A s.heap M_L2 H locs → lv_has ls 3 [(0, .ref (ad o)), (1, .int v1_L2)] → W p l e (rmD 2) s m ([.ref (ad o)] : List Value).toArray below meth c H locs 0 0 Q (F0 m 2 ls []) := by
    intro k42 hJ42 n
    induction n with
    | zero =>
      intro v1_L2 M_L2 H locs ls hf
      cases (show (none : Option Mem) = some M' from hf)
    | succ n ih =>
      intro v1_L2 M_L2 H locs ls hf hW hl
      rw [f_X0_letPass_L2] at hf
      refine lv_iload_n hx hb dX0_letPass_2 rfl (lv_at hl 1 rfl) ?_
      refine lv_aload_n hx hb dX0_letPass_3 rfl (lv_at hl 0 rfl) ?_
      refine gf_X0_30 ho X hW dX0_letPass_4 ?_
      refine lv_icmp_ge (tgt := 42) hx hb dX0_letPass_7 (by decide) (fun hc => ?_) (fun hc => ?_)
      · replace hf := ifp hc hf
        exact hJ42 M_L2 H locs ls hf hW (lv_sub hl [0] rfl)
      · replace hf := ifn hc hf
        refine lv_aload_n hx hb dX0_letPass_10 rfl (lv_at hl 0 rfl) ?_
        refine gf_X0_24 ho X hW dX0_letPass_11 ?_
        refine lv_iload_n hx hb dX0_letPass_14 rfl (lv_at hl 1 rfl) ?_
        obtain ⟨hi15, hf⟩ := grd_some hf
        refine g_iald X hW (iA_st5 ho) hi15 dX0_letPass_15 ?_
        refine lv_istore_n (lv' := [(2, .int (M_L2.1 (o + 5) (ix v1_L2))), (0, .ref (ad o)), (1, .int v1_L2)]) hx hb dX0_letPass_16 rfl hl (by decide) rfl (fun ls hl => ?_)
        refine lv_aload_n hx hb dX0_letPass_17 rfl (lv_at hl 1 rfl) ?_
        refine lv_iload_n hx hb dX0_letPass_18 rfl (lv_at hl 0 rfl) ?_
        obtain ⟨r19, h19, hf⟩ := bR_some hf
        refine g_calliV X hl.1 hZ hA hW (c_X0_has l D cy ad ho h19) cw_X0_has ql_X0_58 (iO_st ho) rfl (by decide) rfl (Nat.le_of_ble_eq_true rfl) dX0_letPass_19 (fun H locs hW => ?_)
        obtain ⟨k36, hk36, hf⟩ := jn_some1 hf
        have hJ36 : ∀  (M_36j : Mem) (H : Heap) (locs : List Loc) (ls : Array Slot), k36 M_36j = some M' → Wd D 43 ad (CC ad cy) A s.heap M_36j H locs → lv_has ls 3 [(0, .ref (ad o)), (1, .int v1_L2)] → W p l e (rmD 2) s m ([.ref (ad o)] : List Value).toArray below meth c H locs 0 0 Q (F0 m 36 ls []) := by
          intro M_36j H locs ls hf hW hl
          rw [hk36] at hf
          refine lv_iinc (v := (v1_L2 + 1)) (lv' := [(1, .int (v1_L2 + 1)), (0, .ref (ad o))]) hx hb dX0_letPass_36 hl (k := 1) rfl rfl (by decide) rfl (fun ls hl => ?_)
          refine lv_goto (tgt := 2) hx hb dX0_letPass_39 (by decide) ?_
          exact ih (v1_L2 + 1) M_36j H locs ls hf hW (lv_sub hl [1, 0] rfl)
        refine lv_if_eq (tgt := 36) hx hb dX0_letPass_22 (by decide) (fun hc => ?_) (fun hc => ?_)
        · replace hf := ifp hc hf
          exact hJ36 M_L2 H locs ls hf hW (lv_sub hl [1, 2] rfl)
        · replace hf := ifn hc hf
          refine lv_aload_n hx hb dX0_letPass_25 rfl (lv_at hl 1 rfl) ?_
          refine gf_X0_27 ho X hW dX0_letPass_26 ?_
          refine lv_iload_n hx hb dX0_letPass_29 rfl (lv_at hl 0 rfl) ?_
          refine lv_aload_n hx hb dX0_letPass_30 rfl (lv_at hl 1 rfl) ?_
          refine lv_iload_n hx hb dX0_letPass_31 rfl (lv_at hl 2 rfl) ?_
          obtain ⟨r32, h32, hf⟩ := bR_some hf
          refine g_calliV X hl.1 hZ hA hW (c_X0_comesOut l D cy ad ho h32) cw_X0_comesOut ql_X0_62 (iO_st ho) rfl (by decide) rfl (Nat.le_of_ble_eq_true rfl) dX0_letPass_32 (fun H locs hW => ?_)
          obtain ⟨hi35, hf⟩ := grd_some hf
          refine g_iast X hW (iA_st6 ho) hi35 dX0_letPass_35 (fun H locs hW => ?_)
          obtain ⟨M35, e35, hf⟩ := lt_some hf
          have hW : Wd D 43 ad (CC ad cy) A s.heap M35 H locs := by rw [e35]; exact hW
          exact hJ36 M35 H locs ls hf hW (lv_sub hl [1, 2] rfl)
  obtain ⟨H, hH⟩ : ∃ H, H = s.heap := ⟨_, rfl⟩
  obtain ⟨locs, hlo⟩ : ∃ q : List Loc, q = [] := ⟨_, rfl⟩
  have hW : Wd D 43 ad (CC ad cy) A s.heap M H locs := by rw [hH, hlo]; exact hW
  suffices hh : W p l e (rmD 2) s m ([.ref (ad o)] : List Value).toArray below meth c H locs 0 0 Q (F0 m 0 ls []) by rw [hH, hlo] at hh; exact hh
  unfold f_X0_letPass at hf
  refine lv_iconst (v := 0) hx hb dX0_letPass_0 (by decide) ?_
  refine lv_istore_n (lv' := [(1, .int 0), (0, .ref (ad o))]) hx hb dX0_letPass_1 rfl hl (by decide) rfl (fun ls hl => ?_)
  obtain ⟨k42, hk42, hf⟩ := jn_some1 hf
  have hJ42 : ∀  (M_42x : Mem) (H : Heap) (locs : List Loc) (ls : Array Slot), k42 M_42x = some M' → Wd D 43 ad (CC ad cy) A s.heap M_42x H locs → lv_has ls 3 [(0, .ref (ad o))] → W p l e (rmD 2) s m ([.ref (ad o)] : List Value).toArray below meth c H locs 0 0 Q (F0 m 42 ls []) := by
    intro M_42x H locs ls hf hW hl
    rw [hk42] at hf
    refine lv_iconst (v := 0) hx hb dX0_letPass_42 (by decide) ?_
    refine lv_istore_n (lv' := [(1, .int 0), (0, .ref (ad o))]) hx hb dX0_letPass_43 rfl hl (by decide) rfl (fun ls hl => ?_)
    obtain ⟨k107, hk107, hf⟩ := jn_some1 hf
    have hJ107 : ∀  (M_107x : Mem) (H : Heap) (locs : List Loc) (ls : Array Slot), k107 M_107x = some M' → Wd D 43 ad (CC ad cy) A s.heap M_107x H locs → lv_has ls 3 [(0, .ref (ad o))] → W p l e (rmD 2) s m ([.ref (ad o)] : List Value).toArray below meth c H locs 0 0 Q (F0 m 107 ls []) := by
      intro M_107x H locs ls hf hW hl
      rw [hk107] at hf
      refine lv_aload_n hx hb dX0_letPass_107 rfl (lv_at hl 0 rfl) ?_
      refine lv_dup hx hb dX0_letPass_108 rfl ?_
      refine gf_X0_34 ho X hW dX0_letPass_109 ?_
      refine lv_iconst (v := 1) hx hb dX0_letPass_112 (by decide) ?_
      refine lv_iadd hx hb dX0_letPass_113 ?_
      refine gp_X0_34 ho X hW dX0_letPass_114 (fun H locs hW => ?_)
      obtain ⟨M114, e114, hf⟩ := lt_some hf
      have hW : Wd D 43 ad (CC ad cy) A s.heap M114 H locs := by rw [e114]; exact hW
      exact g_vret X hr hlk hQ hW dX0_letPass_117 hf
    exact hL44 k107 hJ107 FU 0 M_42x H locs ls hf hW (lv_sub hl [1, 0] rfl)
  exact hL2 k42 hJ42 FU 0 M H locs ls hf hW (lv_sub hl [1, 0] rfl)
