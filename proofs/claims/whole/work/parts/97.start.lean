theorem nw_f : ∀ q ∈ nestF, Cond.fieldLinkNest q.1 q.2.1 q.2.2.1 q.2.2.2.1 q.2.2.2.2.1 q.2.2.2.2.2 ∈ lw_tbl := (List.forall_mem_cons.mpr ⟨List.mem_of_getElem? (i := 106) (by decide +kernel), (List.forall_mem_cons.mpr ⟨List.mem_of_getElem? (i := 108) (by decide +kernel), (List.forall_mem_cons.mpr ⟨List.mem_of_getElem? (i := 111) (by decide +kernel), (List.forall_mem_cons.mpr ⟨List.mem_of_getElem? (i := 113) (by decide +kernel), (List.forall_mem_cons.mpr ⟨List.mem_of_getElem? (i := 116) (by decide +kernel), (List.forall_mem_cons.mpr ⟨List.mem_of_getElem? (i := 118) (by decide +kernel), (List.forall_mem_cons.mpr ⟨List.mem_of_getElem? (i := 260) (by decide +kernel), (fun _ h => absurd h List.not_mem_nil)⟩)⟩)⟩)⟩)⟩)⟩)⟩)
theorem nw_m : ∀ q ∈ nestM, Cond.methodLinkNest q.1 q.2.1 q.2.2.1 q.2.2.2 ∈ lw_tbl := (List.forall_mem_cons.mpr ⟨List.mem_of_getElem? (i := 101) (by decide +kernel), (List.forall_mem_cons.mpr ⟨List.mem_of_getElem? (i := 249) (by decide +kernel), (List.forall_mem_cons.mpr ⟨List.mem_of_getElem? (i := 266) (by decide +kernel), (List.forall_mem_cons.mpr ⟨List.mem_of_getElem? (i := 270) (by decide +kernel), (List.forall_mem_cons.mpr ⟨List.mem_of_getElem? (i := 279) (by decide +kernel), (List.forall_mem_cons.mpr ⟨List.mem_of_getElem? (i := 283) (by decide +kernel), (List.forall_mem_cons.mpr ⟨List.mem_of_getElem? (i := 311) (by decide +kernel), (List.forall_mem_cons.mpr ⟨List.mem_of_getElem? (i := 315) (by decide +kernel), (List.forall_mem_cons.mpr ⟨List.mem_of_getElem? (i := 335) (by decide +kernel), (List.forall_mem_cons.mpr ⟨List.mem_of_getElem? (i := 340) (by decide +kernel), (List.forall_mem_cons.mpr ⟨List.mem_of_getElem? (i := 344) (by decide +kernel), (List.forall_mem_cons.mpr ⟨List.mem_of_getElem? (i := 348) (by decide +kernel), (List.forall_mem_cons.mpr ⟨List.mem_of_getElem? (i := 352) (by decide +kernel), (List.forall_mem_cons.mpr ⟨List.mem_of_getElem? (i := 374) (by decide +kernel), (List.forall_mem_cons.mpr ⟨List.mem_of_getElem? (i := 401) (by decide +kernel), (List.forall_mem_cons.mpr ⟨List.mem_of_getElem? (i := 410) (by decide +kernel), (List.forall_mem_cons.mpr ⟨List.mem_of_getElem? (i := 411) (by decide +kernel), (List.forall_mem_cons.mpr ⟨List.mem_of_getElem? (i := 423) (by decide +kernel), (List.forall_mem_cons.mpr ⟨List.mem_of_getElem? (i := 431) (by decide +kernel), (List.forall_mem_cons.mpr ⟨List.mem_of_getElem? (i := 487) (by decide +kernel), (List.forall_mem_cons.mpr ⟨List.mem_of_getElem? (i := 499) (by decide +kernel), (List.forall_mem_cons.mpr ⟨List.mem_of_getElem? (i := 519) (by decide +kernel), (List.forall_mem_cons.mpr ⟨List.mem_of_getElem? (i := 562) (by decide +kernel), (List.forall_mem_cons.mpr ⟨List.mem_of_getElem? (i := 569) (by decide +kernel), (fun _ h => absurd h List.not_mem_nil)⟩)⟩)⟩)⟩)⟩)⟩)⟩)⟩)⟩)⟩)⟩)⟩)⟩)⟩)⟩)⟩)⟩)⟩)⟩)⟩)⟩)⟩)⟩)⟩)
/-! the law's beginning -/
theorem arr_of {args : Array Value} {s : State} {ty : FieldType} (h : (Cond.arrayClass ty).before args s = true) : ∃ cA : ClassId, ArrOfT s cA ty ∧ s.vm.findClass ("[" ++ ty.toString) = some cA := by
  obtain ⟨cA, kA, comp, h1, h2, h3⟩ := Cond.arrayClass_spec h
  exact ⟨cA, fun n z => ⟨fun k h => (by cases h), kA, h2, comp, h3⟩, h1⟩
theorem arr_ofA {s : State} {ty : FieldType} (h : AOA ty s) : ∃ cA : ClassId, ArrOfT s cA (.array ty) ∧ s.vm.findClass ("[" ++ (FieldType.array ty).toString) = some cA := by
  obtain ⟨comp, cA, kA, h1, h2, h3, h4, h5⟩ := h.spec
  exact ⟨cA, fun n z => ⟨fun k h => (by cases h), kA, h3, comp, h4⟩, h5⟩
set_option maxHeartbeats 4000000 in
set_option maxRecDepth 100000 in
theorem whole_start {p : Program} {e : Env} {s : State} {m : MethodId} {below : List Frame} {meth : Method} {c : Code} (l : Launch) (hflags : l.flags = flags0) {b L : Nat} {xs : Nat → Int32} (hL : L ≤ 3072) (C0 : lw_At p s m meth c b L xs) : W p l e room_1 s m #[Value.ref b] below meth c s.heap [] 0 0 (lw_Z below #[Value.ref b] s) (entryFrame m ([Value.ref b] : List Value).toArray 4) := by
  obtain ⟨hx, hb, hr, hml, hown, hts, hXs, hbl, hlocks, hgv⟩ := id C0
  have htg : ∀ w ∈ lw_g, w.before #[Value.ref b] s = true := fun w hw => hts w (lw_g_tbl hw)
  obtain ⟨A, hAe⟩ : ∃ A : Nat → Prop, A = fun q => s.heap.size ≤ q := ⟨_, rfl⟩
  have hA : ∀ q : Nat, s.heap.size ≤ q → A q := fun q h => by rw [hAe]; exact h
  have hAs : ∀ q : Nat, A q → s.heap.size ≤ q := fun q h => by rw [hAe] at h; exact h
  have hbA : ¬ A b := fun q => absurd (hAs b q) (Nat.not_le.mpr hbl)
  have hAn : ∀ a : Nat, a < s.heap.size → ¬ A a := fun a h q => absurd (hAs a q) (Nat.not_le.mpr h)
  obtain ⟨c0, i0, hK0⟩ := u_known (C := RX0) (T := TX0) (N := 8) (n := 8) htg inX0g (htg _ (mem_g (i := 100) (by decide +kernel) (by decide +kernel)))
  obtain ⟨c1, i1, hK1⟩ := u_known (C := RX1) (T := TX1) (N := 16) (n := 16) htg inX1g (htg _ (mem_g (i := 88) (by decide +kernel) (by decide +kernel)))
  obtain ⟨c2, i2, hK2⟩ := u_known (C := RX2) (T := TX2) (N := 26) (n := 26) htg inX2g (htg _ (mem_g (i := 589) (by decide +kernel) (by decide +kernel)))
  have hO1 : AOA .int s := AOA.of (hts (.arrayOver (.array .int)) (List.mem_of_getElem? (i := 96) (by decide +kernel)))
  have hO2 : AOA .byte s := AOA.of (hts (.arrayOver (.array .byte)) (List.mem_of_getElem? (i := 98) (by decide +kernel)))
  obtain ⟨y0, a0, b0⟩ := arr_of (htg _ q_arrI)
  obtain ⟨y1, a1, b1⟩ := arr_of (htg _ q_arrB)
  obtain ⟨y2, a2, b2⟩ := arr_of (htg _ q_arrZ)
  obtain ⟨y3, a3, b3⟩ := arr_ofA hO1
  obtain ⟨y4, a4, b4⟩ := arr_ofA hO2
  obtain ⟨cy, hcy⟩ : ∃ cy : Nat → ClassId, cy = fun k => [y0, y1, y2, y3, y4].getD k y0 := ⟨_, rfl⟩
  obtain ⟨D, hK⟩ : ∃ D : va_G, va_K D vwCl (tyL cy) s := by
    refine ⟨(fun k => [c0, c1, c2].getD k c0, fun k => [i0, i1, i2].getD k i0), fun k q hq => ?_, fun k q hq => ?_⟩
    · match k, hq with
      | 0, hq => cases hq; exact hK0
      | 1, hq => cases hq; exact hK1
      | 2, hq => cases hq; exact hK2
      | k + 3, hq => simp [vwCl] at hq
    · rw [hcy] at hq
      match k, hq with
      | 0, hq => cases hq; exact ⟨a0, b0⟩
      | 1, hq => cases hq; exact ⟨a1, b1⟩
      | 2, hq => cases hq; exact ⟨a2, b2⟩
      | 3, hq => cases hq; exact ⟨a3, b3⟩
      | 4, hq => cases hq; exact ⟨a4, b4⟩
      | k + 5, hq => simp [tyL] at hq
  have hN : NW s := ⟨fun q hq => va_Nw.of rfl (hts _ (nw_f q hq)), fun q hq => va_Nw.of rfl (hts _ (nw_m q hq))⟩
  have hfl := flat_of_before _ hgv
  have hZ : SZ A s s.heap := by
    obtain ⟨t, h1, h2⟩ := va_Tof (tm := .static "TubeWords" "LETTERS" "[B") (ty := .byte) (N := 6) (f := fun j => .int (lett j)) (A := A) (by decide) (hfl _ (by decide +kernel)) (va_eqt (z := 6) (hfl _ (by decide +kernel))) (fun j hj => by
      rcases (show j = 0 ∨ j = 1 ∨ j = 2 ∨ j = 3 ∨ j = 4 ∨ j = 5 by omega) with rfl | rfl | rfl | rfl | rfl | rfl
      · exact va_eqt (z := 116) (hfl _ (by decide +kernel))
      · exact va_eqt (z := 119) (hfl _ (by decide +kernel))
      · exact va_eqt (z := 101) (hfl _ (by decide +kernel))
      · exact va_eqt (z := 115) (hfl _ (by decide +kernel))
      · exact va_eqt (z := 102) (hfl _ (by decide +kernel))
      · exact va_eqt (z := 100) (hfl _ (by decide +kernel))) hAn
    exact ⟨t, va_Zof (hts (.laysStatic "TubeWords" "LETTERS" "[B") (List.mem_of_getElem? (i := 261) (by decide +kernel))) (htg _ (mem_g (i := 81) (by decide +kernel) (by decide +kernel))) h1 hAn, h2⟩
  have X : Cx p s m #[Value.ref b] c cL_law 4 RL D cy := ⟨hx, hb, hml, hown, htg, hK, hN⟩
  have hW : WL D A s.heap [] s.heap [] := ⟨fun k q h => by simp at h, ⟨fun i j p q h => by simp at h, fun k q h => by simp at h⟩, va_S.rf⟩
  have hl := lv_entry ([.ref b]) (n := 4) (Nat.le_of_ble_eq_true rfl)
  rw [lg_entry_eq]
  generalize (lg_sl ([.ref b]) ++ List.replicate (4 - (lg_sl ([.ref b])).length) Slot.unset).toArray = ls at hl ⊢
  have hl : lv_has ls 4 [(0, .ref b)] := hl
  refine va_new (ci := 1) (fs := [.null, .null, .null, .null, .null, .null, .null, .int 0, .null, .null, .null, .null, .int 0, .int 0, .long 0, .long 0]) (C := RX1) (T := TX1) (N := 16) hx hb htg inX1g tyX1 tyX1_ok hown (htg _ (mem_g (i := 87) (by decide +kernel) (by decide +kernel))) (htg _ (mem_g (i := 88) (by decide +kernel) (by decide +kernel))) (htg _ (mem_g (i := 81) (by decide +kernel) (by decide +kernel))) hK hW.1 hW.2.1 hW.2.2 hA rfl dfX1 (Nat.le_of_ble_eq_true rfl) (Nat.le_of_ble_eq_true rfl) dL_law_0 (fun h0 H h1 h2 h3 => ?_)
  have hW : WL D A s.heap ([(h0, .inr (1, [.null, .null, .null, .null, .null, .null, .null, .int 0, .null, .null, .null, .null, .int 0, .int 0, .long 0, .long 0]))] ++ []) H [] := ⟨h1, h2, h3⟩
  refine lv_dup hx hb dL_law_3 rfl ?_
  refine k_init X hl.1 hO1 hO2 hA hW (by decide) ⟨(Nat.le_of_ble_eq_true rfl), (Nat.le_of_ble_eq_true rfl)⟩ (C := fun ad => CC ad cy) (c_X1_init l D cy h0) (mem_g (i := 91) (by decide +kernel) (by decide +kernel)) (mem_g (i := 81) (by decide +kernel) (by decide +kernel)) ql_L_9 (mem_g (i := 90) (by decide +kernel) (by decide +kernel)) rfl ⟨by decide, by decide, by decide +kernel⟩ ⟨by decide, by decide⟩ (Nat.le_of_ble_eq_true rfl) dL_law_4 (fun adC H locs hq hW1 => ?_)
  subst hq
  refine lv_astore_n (lv' := [(1, .ref (adC 0)), (0, .ref b)]) hx hb dL_law_7 rfl hl (by decide) rfl (fun ls hl => ?_)
  refine va_new (ci := 2) (fs := [.null, .null, .null, .null, .int 0, .null, .null, .null, .null, .null, .null, .int 0, .null, .null, .int 0, .long 0, .long 0, .int 0, .null, .int 0, .null, .null, .null, .null, .null, .null]) (C := RX2) (T := TX2) (N := 26) hx hb htg inX2g tyX2 tyX2_ok hown (htg _ (mem_g (i := 588) (by decide +kernel) (by decide +kernel))) (htg _ (mem_g (i := 589) (by decide +kernel) (by decide +kernel))) (htg _ (mem_g (i := 83) (by decide +kernel) (by decide +kernel))) hK hW1.1 hW1.2.1 hW1.2.2 hA rfl dfX2 (Nat.le_of_ble_eq_true rfl) (Nat.le_of_ble_eq_true rfl) dL_law_8 (fun h0 H h1 h2 h3 => ?_)
  have hW0 : WL D A s.heap ((WS 43 adC (CC adC cy) M0c ++ []) ++ [(h0, .inr (2, [.null, .null, .null, .null, .int 0, .null, .null, .null, .null, .null, .null, .int 0, .null, .null, .int 0, .long 0, .long 0, .int 0, .null, .int 0, .null, .null, .null, .null, .null, .null]))]) H locs := ⟨h1, h2, h3⟩
  rw [List.append_nil] at hW0
  have hW3 := hW0.swap
  refine lv_dup hx hb dL_law_11 rfl ?_
  refine k_init X hl.1 hO1 hO2 hA hW3 (by rw [WS_len]; decide) ⟨(Nat.le_of_ble_eq_true rfl), (Nat.le_of_ble_eq_true rfl)⟩ (C := fun ad => CM ad cy) (c_X2_init l D cy h0) (mem_g (i := 592) (by decide +kernel) (by decide +kernel)) (mem_g (i := 83) (by decide +kernel) (by decide +kernel)) ql_L_12 (mem_g (i := 591) (by decide +kernel) (by decide +kernel)) rfl ⟨by decide, by decide, by decide +kernel⟩ ⟨by decide, by decide⟩ (Nat.le_of_ble_eq_true rfl) dL_law_12 (fun adM H locs hq hW2 => ?_)
  subst hq
  refine lv_astore_n (lv' := [(2, .ref (adM 0)), (1, .ref (adC 0)), (0, .ref b)]) hx hb dL_law_15 rfl hl (by decide) rfl (fun ls hl => ?_)
  refine lv_iconst (v := 0) hx hb dL_law_16 (by decide) ?_
  refine lv_istore_n (lv' := [(3, .int 0), (2, .ref (adM 0)), (1, .ref (adC 0)), (0, .ref b)]) hx hb dL_law_17 rfl hl (by decide) rfl (fun ls hl => ?_)
  exact law_loop hr hlocks X hXs hbl hbA hAs hZ hA hL ⟨(Nat.le_of_ble_eq_true rfl), (Nat.le_of_ble_eq_true rfl)⟩ (L + 1) 0 M0c M0m H locs ls (by omega) (by omega) sim0 hW2.swap hl
