/-! a store is made -/
theorem dfX0 : ∀ j, j < 8 → defaultValue (tyX0 j) = vp_V [.null, .null, .null, .null, .null, .null, .int 0, .int 0] j := by
  intro j hj
  rcases (show j = 0 ∨ j = 1 ∨ j = 2 ∨ j = 3 ∨ j = 4 ∨ j = 5 ∨ j = 6 ∨ j = 7 by omega) with rfl | rfl | rfl | rfl | rfl | rfl | rfl | rfl <;> rfl
theorem q_ns28 : (RX1, 28, yX0_init, "TubeWords") ∈ nestM := List.mem_of_getElem? (i := 0) rfl
abbrev S7 (cy : Nat → ClassId) (h0 : Nat) (u : Nat → Nat) : va_W := [(h0, .inr (0, [.ref (u 1), .ref (u 2), .ref (u 3), .ref (u 4), .ref (u 5), .ref (u 6), .int 0, .int 0])), (u 1, .inl (cy 0, 7, .inl (fun _ => 0))), (u 2, .inl (cy 0, 7, .inl (fun _ => 0))), (u 3, .inl (cy 0, 7, .inl (fun _ => 0))), (u 4, .inl (cy 0, 7, .inl (fun _ => 0))), (u 5, .inl (cy 0, 7, .inl (fun _ => 0))), (u 6, .inl (cy 0, 7, .inl (fun _ => 0)))]
set_option maxHeartbeats 4000000 in
set_option maxRecDepth 100000 in
theorem c_X0_init (l : Launch) (D : va_G) (cy : Nat → ClassId) (h0 : Nat) : MetI l D cy yX0_init cX0_init 1 1 6 42 [.ref h0] [(h0, .inr (0, [.null, .null, .null, .null, .null, .null, .int 0, .int 0]))] (fun A => va_Qv (fun (_ : Nat → Nat) => True) (fun u t => va_P D vwCl (S7 cy h0 u) t.heap ∧ va_K D vwCl (tyL cy) t ∧ va_D A (S7 cy h0 u)) A) := by
  refine MetI.of (own := RX0) (by decide +kernel) rfl rfl (Nat.le_of_ble_eq_true rfl) ?_
  intro p e s m below meth c A Q ls X hr hlk hi hO1 hO2 hA hQ hW hl
  have hx := X.1
  have hb := X.2.1
  obtain ⟨H, hH⟩ : ∃ H, H = s.heap := ⟨_, rfl⟩
  obtain ⟨locs, hlo⟩ : ∃ q : List Loc, q = [] := ⟨_, rfl⟩
  rw [← hlo] at hW ⊢
  have hW : WL D A s.heap [(h0, .inr (0, [.null, .null, .null, .null, .null, .null, .int 0, .int 0]))] H locs := by rw [hH]; exact hW
  rw [← hH]
  have hl : lv_has ls 1 [(0, .ref h0)] := hl
  refine lv_aload_n hx hb dX0_init_0 rfl (lv_at hl 0 rfl) ?_
  refine n_obj X hl.1 q_ob0 dX0_init_1 (Nat.le_of_ble_eq_true rfl) (Nat.le_of_ble_eq_true rfl) rfl ?_
  refine lv_aload_n hx hb dX0_init_4 rfl (lv_at hl 0 rfl) ?_
  refine lv_bipush (v := 7) hx hb dX0_init_5 (by decide) ?_
  refine n_newi X hA hW 7 rfl (by decide) (Nat.le_of_ble_eq_true rfl) (Nat.le_of_ble_eq_true rfl) dX0_init_7 (fun q1 H hW => ?_)
  have hW : WL D A s.heap [(h0, .inr (0, [.null, .null, .null, .null, .null, .null, .int 0, .int 0])), (q1, .inl (cy 0, 7, .inl (fun _ => 0)))] H locs := hW
  refine W.widen (k := 1) (n := 7) (Nat.le_of_ble_eq_true rfl) (Nat.le_of_ble_eq_true rfl) ?_
  refine n_putF X hi hW 0 rfl rfl inX0g tyX0 tyX0_ok nmX0 0 (by decide) (mem_g (i := 105) (by decide +kernel) (by decide +kernel)) rfl rfl (ty := .array .int) (v := .ref q1) (by decide +kernel) rfl rfl (Nat.le_of_ble_eq_true rfl) dX0_init_9 (fun H locs hW => ?_)
  have hW : WL D A s.heap [(h0, .inr (0, [.ref q1, .null, .null, .null, .null, .null, .int 0, .int 0])), (q1, .inl (cy 0, 7, .inl (fun _ => 0)))] H locs := hW
  refine lv_aload_n hx hb dX0_init_12 rfl (lv_at hl 0 rfl) ?_
  refine lv_bipush (v := 7) hx hb dX0_init_13 (by decide) ?_
  refine n_newi X hA hW 7 rfl (by decide) (Nat.le_of_ble_eq_true rfl) (Nat.le_of_ble_eq_true rfl) dX0_init_15 (fun q2 H hW => ?_)
  have hW : WL D A s.heap [(h0, .inr (0, [.ref q1, .null, .null, .null, .null, .null, .int 0, .int 0])), (q1, .inl (cy 0, 7, .inl (fun _ => 0))), (q2, .inl (cy 0, 7, .inl (fun _ => 0)))] H locs := hW
  refine W.widen (k := 2) (n := 14) (Nat.le_of_ble_eq_true rfl) (Nat.le_of_ble_eq_true rfl) ?_
  refine n_putF X hi hW 0 rfl rfl inX0g tyX0 tyX0_ok nmX0 1 (by decide) (mem_g (i := 107) (by decide +kernel) (by decide +kernel)) rfl rfl (ty := .array .int) (v := .ref q2) (by decide +kernel) rfl rfl (Nat.le_of_ble_eq_true rfl) dX0_init_17 (fun H locs hW => ?_)
  have hW : WL D A s.heap [(h0, .inr (0, [.ref q1, .ref q2, .null, .null, .null, .null, .int 0, .int 0])), (q1, .inl (cy 0, 7, .inl (fun _ => 0))), (q2, .inl (cy 0, 7, .inl (fun _ => 0)))] H locs := hW
  refine lv_aload_n hx hb dX0_init_20 rfl (lv_at hl 0 rfl) ?_
  refine lv_bipush (v := 7) hx hb dX0_init_21 (by decide) ?_
  refine n_newi X hA hW 7 rfl (by decide) (Nat.le_of_ble_eq_true rfl) (Nat.le_of_ble_eq_true rfl) dX0_init_23 (fun q3 H hW => ?_)
  have hW : WL D A s.heap [(h0, .inr (0, [.ref q1, .ref q2, .null, .null, .null, .null, .int 0, .int 0])), (q1, .inl (cy 0, 7, .inl (fun _ => 0))), (q2, .inl (cy 0, 7, .inl (fun _ => 0))), (q3, .inl (cy 0, 7, .inl (fun _ => 0)))] H locs := hW
  refine W.widen (k := 3) (n := 21) (Nat.le_of_ble_eq_true rfl) (Nat.le_of_ble_eq_true rfl) ?_
  refine n_putF X hi hW 0 rfl rfl inX0g tyX0 tyX0_ok nmX0 2 (by decide) (mem_g (i := 109) (by decide +kernel) (by decide +kernel)) rfl rfl (ty := .array .int) (v := .ref q3) (by decide +kernel) rfl rfl (Nat.le_of_ble_eq_true rfl) dX0_init_25 (fun H locs hW => ?_)
  have hW : WL D A s.heap [(h0, .inr (0, [.ref q1, .ref q2, .ref q3, .null, .null, .null, .int 0, .int 0])), (q1, .inl (cy 0, 7, .inl (fun _ => 0))), (q2, .inl (cy 0, 7, .inl (fun _ => 0))), (q3, .inl (cy 0, 7, .inl (fun _ => 0)))] H locs := hW
  refine lv_aload_n hx hb dX0_init_28 rfl (lv_at hl 0 rfl) ?_
  refine lv_bipush (v := 7) hx hb dX0_init_29 (by decide) ?_
  refine n_newi X hA hW 7 rfl (by decide) (Nat.le_of_ble_eq_true rfl) (Nat.le_of_ble_eq_true rfl) dX0_init_31 (fun q4 H hW => ?_)
  have hW : WL D A s.heap [(h0, .inr (0, [.ref q1, .ref q2, .ref q3, .null, .null, .null, .int 0, .int 0])), (q1, .inl (cy 0, 7, .inl (fun _ => 0))), (q2, .inl (cy 0, 7, .inl (fun _ => 0))), (q3, .inl (cy 0, 7, .inl (fun _ => 0))), (q4, .inl (cy 0, 7, .inl (fun _ => 0)))] H locs := hW
  refine W.widen (k := 4) (n := 28) (Nat.le_of_ble_eq_true rfl) (Nat.le_of_ble_eq_true rfl) ?_
  refine n_putF X hi hW 0 rfl rfl inX0g tyX0 tyX0_ok nmX0 3 (by decide) (mem_g (i := 110) (by decide +kernel) (by decide +kernel)) rfl rfl (ty := .array .int) (v := .ref q4) (by decide +kernel) rfl rfl (Nat.le_of_ble_eq_true rfl) dX0_init_33 (fun H locs hW => ?_)
  have hW : WL D A s.heap [(h0, .inr (0, [.ref q1, .ref q2, .ref q3, .ref q4, .null, .null, .int 0, .int 0])), (q1, .inl (cy 0, 7, .inl (fun _ => 0))), (q2, .inl (cy 0, 7, .inl (fun _ => 0))), (q3, .inl (cy 0, 7, .inl (fun _ => 0))), (q4, .inl (cy 0, 7, .inl (fun _ => 0)))] H locs := hW
  refine lv_aload_n hx hb dX0_init_36 rfl (lv_at hl 0 rfl) ?_
  refine lv_bipush (v := 7) hx hb dX0_init_37 (by decide) ?_
  refine n_newi X hA hW 7 rfl (by decide) (Nat.le_of_ble_eq_true rfl) (Nat.le_of_ble_eq_true rfl) dX0_init_39 (fun q5 H hW => ?_)
  have hW : WL D A s.heap [(h0, .inr (0, [.ref q1, .ref q2, .ref q3, .ref q4, .null, .null, .int 0, .int 0])), (q1, .inl (cy 0, 7, .inl (fun _ => 0))), (q2, .inl (cy 0, 7, .inl (fun _ => 0))), (q3, .inl (cy 0, 7, .inl (fun _ => 0))), (q4, .inl (cy 0, 7, .inl (fun _ => 0))), (q5, .inl (cy 0, 7, .inl (fun _ => 0)))] H locs := hW
  refine W.widen (k := 5) (n := 35) (Nat.le_of_ble_eq_true rfl) (Nat.le_of_ble_eq_true rfl) ?_
  refine n_putF X hi hW 0 rfl rfl inX0g tyX0 tyX0_ok nmX0 4 (by decide) (mem_g (i := 112) (by decide +kernel) (by decide +kernel)) rfl rfl (ty := .array .int) (v := .ref q5) (by decide +kernel) rfl rfl (Nat.le_of_ble_eq_true rfl) dX0_init_41 (fun H locs hW => ?_)
  have hW : WL D A s.heap [(h0, .inr (0, [.ref q1, .ref q2, .ref q3, .ref q4, .ref q5, .null, .int 0, .int 0])), (q1, .inl (cy 0, 7, .inl (fun _ => 0))), (q2, .inl (cy 0, 7, .inl (fun _ => 0))), (q3, .inl (cy 0, 7, .inl (fun _ => 0))), (q4, .inl (cy 0, 7, .inl (fun _ => 0))), (q5, .inl (cy 0, 7, .inl (fun _ => 0)))] H locs := hW
  refine lv_aload_n hx hb dX0_init_44 rfl (lv_at hl 0 rfl) ?_
  refine lv_bipush (v := 7) hx hb dX0_init_45 (by decide) ?_
  refine n_newi X hA hW 7 rfl (by decide) (Nat.le_of_ble_eq_true rfl) (Nat.le_of_ble_eq_true rfl) dX0_init_47 (fun q6 H hW => ?_)
  have hW : WL D A s.heap [(h0, .inr (0, [.ref q1, .ref q2, .ref q3, .ref q4, .ref q5, .null, .int 0, .int 0])), (q1, .inl (cy 0, 7, .inl (fun _ => 0))), (q2, .inl (cy 0, 7, .inl (fun _ => 0))), (q3, .inl (cy 0, 7, .inl (fun _ => 0))), (q4, .inl (cy 0, 7, .inl (fun _ => 0))), (q5, .inl (cy 0, 7, .inl (fun _ => 0))), (q6, .inl (cy 0, 7, .inl (fun _ => 0)))] H locs := hW
  refine W.widen (k := 6) (n := 42) (Nat.le_of_ble_eq_true rfl) (Nat.le_of_ble_eq_true rfl) ?_
  refine n_putF X hi hW 0 rfl rfl inX0g tyX0 tyX0_ok nmX0 5 (by decide) (mem_g (i := 114) (by decide +kernel) (by decide +kernel)) rfl rfl (ty := .array .int) (v := .ref q6) (by decide +kernel) rfl rfl (Nat.le_of_ble_eq_true rfl) dX0_init_49 (fun H locs hW => ?_)
  have hW : WL D A s.heap [(h0, .inr (0, [.ref q1, .ref q2, .ref q3, .ref q4, .ref q5, .ref q6, .int 0, .int 0])), (q1, .inl (cy 0, 7, .inl (fun _ => 0))), (q2, .inl (cy 0, 7, .inl (fun _ => 0))), (q3, .inl (cy 0, 7, .inl (fun _ => 0))), (q4, .inl (cy 0, 7, .inl (fun _ => 0))), (q5, .inl (cy 0, 7, .inl (fun _ => 0))), (q6, .inl (cy 0, 7, .inl (fun _ => 0)))] H locs := hW
  refine lv_aload_n hx hb dX0_init_52 rfl (lv_at hl 0 rfl) ?_
  refine lv_iconst (v := 0) hx hb dX0_init_53 (by decide) ?_
  refine n_put X hW 0 rfl rfl inX0g tyX0 tyX0_ok nmX0 6 (by decide) (mem_g (i := 115) (by decide +kernel) (by decide +kernel)) rfl (ty := .int) (v := .int 0) (by decide +kernel) rfl rfl (Nat.le_of_ble_eq_true rfl) dX0_init_54 (fun H locs hW => ?_)
  have hW : WL D A s.heap [(h0, .inr (0, [.ref q1, .ref q2, .ref q3, .ref q4, .ref q5, .ref q6, .int 0, .int 0])), (q1, .inl (cy 0, 7, .inl (fun _ => 0))), (q2, .inl (cy 0, 7, .inl (fun _ => 0))), (q3, .inl (cy 0, 7, .inl (fun _ => 0))), (q4, .inl (cy 0, 7, .inl (fun _ => 0))), (q5, .inl (cy 0, 7, .inl (fun _ => 0))), (q6, .inl (cy 0, 7, .inl (fun _ => 0)))] H locs := hW
  refine lv_aload_n hx hb dX0_init_57 rfl (lv_at hl 0 rfl) ?_
  refine lv_iconst (v := 0) hx hb dX0_init_58 (by decide) ?_
  refine n_put X hW 0 rfl rfl inX0g tyX0 tyX0_ok nmX0 7 (by decide) (mem_g (i := 117) (by decide +kernel) (by decide +kernel)) rfl (ty := .int) (v := .int 0) (by decide +kernel) rfl rfl (Nat.le_of_ble_eq_true rfl) dX0_init_59 (fun H locs hW => ?_)
  have hW : WL D A s.heap [(h0, .inr (0, [.ref q1, .ref q2, .ref q3, .ref q4, .ref q5, .ref q6, .int 0, .int 0])), (q1, .inl (cy 0, 7, .inl (fun _ => 0))), (q2, .inl (cy 0, 7, .inl (fun _ => 0))), (q3, .inl (cy 0, 7, .inl (fun _ => 0))), (q4, .inl (cy 0, 7, .inl (fun _ => 0))), (q5, .inl (cy 0, 7, .inl (fun _ => 0))), (q6, .inl (cy 0, 7, .inl (fun _ => 0)))] H locs := hW
  rw [hQ]
  exact W.vret hx hb hr (fun t ht hw => ⟨⟨fun k => [h0, q1, q2, q3, q4, q5, q6].getD k 0, rfl, trivial, by rw [ht]; exact hW.1, va_K.moved hw.alike X.2.2.2.2.2.1, hW.2.1⟩, hW.2.2.F ht⟩) hW.2.2.2.2 dX0_init_62 hlk
