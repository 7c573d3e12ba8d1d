/-! the law: its loop, its beginning -/
theorem dfX1 : ∀ j, j < 16 → defaultValue (tyX1 j) = vp_V [.null, .null, .null, .null, .null, .null, .null, .int 0, .null, .null, .null, .null, .int 0, .int 0, .long 0, .long 0] j := by
  intro j hj
  rcases (show j = 0 ∨ j = 1 ∨ j = 2 ∨ j = 3 ∨ j = 4 ∨ j = 5 ∨ j = 6 ∨ j = 7 ∨ j = 8 ∨ j = 9 ∨ j = 10 ∨ j = 11 ∨ j = 12 ∨ j = 13 ∨ j = 14 ∨ j = 15 by omega) with rfl | rfl | rfl | rfl | rfl | rfl | rfl | rfl | rfl | rfl | rfl | rfl | rfl | rfl | rfl | rfl <;> rfl
theorem dfX2 : ∀ j, j < 26 → defaultValue (tyX2 j) = vp_V [.null, .null, .null, .null, .int 0, .null, .null, .null, .null, .null, .null, .int 0, .null, .null, .int 0, .long 0, .long 0, .int 0, .null, .int 0, .null, .null, .null, .null, .null, .null] j := by
  intro j hj
  rcases (show j = 0 ∨ j = 1 ∨ j = 2 ∨ j = 3 ∨ j = 4 ∨ j = 5 ∨ j = 6 ∨ j = 7 ∨ j = 8 ∨ j = 9 ∨ j = 10 ∨ j = 11 ∨ j = 12 ∨ j = 13 ∨ j = 14 ∨ j = 15 ∨ j = 16 ∨ j = 17 ∨ j = 18 ∨ j = 19 ∨ j = 20 ∨ j = 21 ∨ j = 22 ∨ j = 23 ∨ j = 24 ∨ j = 25 by omega) with rfl | rfl | rfl | rfl | rfl | rfl | rfl | rfl | rfl | rfl | rfl | rfl | rfl | rfl | rfl | rfl | rfl | rfl | rfl | rfl | rfl | rfl | rfl | rfl | rfl | rfl <;> rfl
theorem sim0 : Sim M0c M0m := by
  refine ⟨(0, fun _ => 0, fun _ => 0, fun _ => 0), fun _ => 0, 0, ⟨⟨by decide, fun i hi => absurd hi (Nat.not_lt_zero i)⟩, by decide, fun j hj => absurd hj (Nat.not_lt_zero j), ⟨rfl, rfl, fun i hi => absurd hi (Nat.not_lt_zero i)⟩, rfl, fun j hj => absurd hj (Nat.not_lt_zero j), ⟨rfl, rfl, fun i hi => absurd hi (Nat.not_lt_zero i)⟩, rfl, fun j hj => absurd hj (Nat.not_lt_zero j)⟩, fun k hk => ?_, fun r hr => ?_, fun t ht => ?_, ⟨fun f _ _ => rfl, rfl⟩, rfl, rfl, rfl⟩
  · rcases (show k = 0 ∨ k = 1 ∨ k = 2 by omega) with rfl | rfl | rfl <;> exact Or.inl ⟨rfl, rfl⟩
  · rcases (show r = 0 ∨ r = 1 ∨ r = 2 ∨ r = 3 ∨ r = 4 ∨ r = 5 by omega) with rfl | rfl | rfl | rfl | rfl | rfl <;> exact ⟨rfl, Or.inl rfl, fun i _ => rfl⟩
  · rcases (show t = 0 ∨ t = 1 ∨ t = 2 ∨ t = 3 by omega) with rfl | rfl | rfl | rfl <;> exact ⟨rfl, Or.inl rfl, fun i _ => rfl⟩
section LL
variable {p : Program} {l : Launch} {e : Env} {s : State} {m : MethodId} {below : List Frame} {meth : Method} {c : Code} {cells slots b L : Nat} {xs : Nat → Int32} {D : va_G} {A : Nat → Prop} {cy : Nat → ClassId} {adC adM : Nat → Nat}
theorem k_init {args : Array Value} {H : Heap} {locs : List Loc} {cc : ByteArray} {pc nL : Nat} {ls : Array Slot} {rest : List Value} {own : String} {Q : State → Prop} {wr : va_W} (X : Cx p s m args c cc nL own D cy) (hl : ls.size = nL) (hO1 : AOA .int s) (hO2 : AOA .byte s) (hA : ∀ q, s.heap.size ≤ q → A q) {h0 : Nat} {E0 : va_E} (hW : WL D A s.heap ([(h0, E0)] ++ wr) H locs) (hnd : va_nd ((List.range wr.length).map (fun i => 1 + i)) = true) {mc ms : Nat} (hcs : cells + mc ≤ 600000 ∧ slots + ms ≤ 7302250) {y : MethodName} {bytes : ByteArray} {maxL d index N : Nat} {C : (Nat → Nat) → CF} {M0 : Mem} (hM : MetI l D cy y bytes maxL d mc ms [.ref h0] [(h0, E0)] (fun A => va_Qv (fun (ad : Nat → Nat) => ad 0 = h0) (fun ad t => va_P D vwCl (WS N ad (C ad) M0) t.heap ∧ va_K D vwCl (tyL cy) t ∧ va_D A (WS N ad (C ad) M0)) A)) (hcode : Cond.code y bytes maxL none ∈ lw_g) (hini : Cond.initialized y.cls ∈ lw_g) (hlk : Cond.methodLink own index y ∈ lw_g) (him : Cond.instanceMethod y ∈ lw_g) (hnm : y.name = "<init>") (hpd : y.cls ≠ "java/lang/invoke/MethodHandle" ∧ y.cls ≠ "java/lang/invoke/VarHandle" ∧ (parseMethodDescriptor y.desc).map (fun d => d.parameters.length) = some 0) (hR : d + 1 ≤ 2048 ∧ 8 + (maxL + 11) + 40 * d ≤ 84000) (hrs : (rest.map fun v => v.category).sum ≤ 8) (hdg : decode cc pc = .ok (.invokespecial index, 3))
    (kk : ∀ (ad : Nat → Nat) (H1 : Heap) (locs1 : List Loc), ad 0 = h0 → WL D A s.heap (WS N ad (C ad) M0 ++ wr) H1 locs1 → W p l e room_1 s m args below meth c H1 locs1 (cells + mc) (slots + ms) Q (F0 m (pc + 3) ls rest)) : W p l e room_1 s m args below meth c H locs cells slots Q (F0 m pc ls (.ref h0 :: rest)) := by
  have hF := va_free (wc := [(h0, E0)]) hW.2.1 hW.2.2 hA [0] rfl
  refine va_callv (va_runI (As := []) (rest := rest) ⟨X.1, X.2.1, X.2.2.1, X.2.2.2.1, X.2.2.2.2.1⟩ (hM H.size) (cwI 0 X.2.2.2.2.1 (good_cdsG hcode) rfl rfl rfl (X.2.2.2.2.1 _ hini) (X.2.2.2.2.1 _ hlk) (X.2.2.2.2.1 _ him) hnm hpd hR) ⟨fun a U g mk q => PreI.calls a q, fun U hU hw => ⟨rfl, by rw [hU], by rw [hU]; exact P_left hW.1, va_K.moved hw.alike X.2.2.2.2.2.1, (D_left hW.2.1).weaken (fun _ _ _ _ => trivial), X.2.2.2.2.2.2.warm hw, hO1.moved hw.alike, hO2.moved hw.alike⟩⟩ rfl rfl hl rfl (lv_room hrs) hdg hcs) hW.2.2 (fun q _ h => hF q h) hF (fun ad t H1 locs1 ht hvm hw hB hz1 hk1 hS => ?_)
  obtain ⟨hP1, hK1, hD1⟩ := hB
  rw [ht] at hP1
  obtain ⟨hP, hD⟩ := va_join (wr := wr) (wc := [(h0, E0)]) (w1 := WS N ad (C ad) M0) hW.1 hW.2.1 [0] ((List.range wr.length).map (fun i => 1 + i)) rfl (map_right [(h0, E0)] _ _ _ rfl rfl) hnd (fun i hi q => by
    obtain ⟨j, -, rfl⟩ := List.mem_map.mp hi
    have := List.mem_singleton.mp q
    omega) hk1 hF hP1 hD1
  exact kk ad H1 locs1 hw (WL.swap ⟨hP, hD, hS⟩)
theorem law_end {j : Nat} {H : Heap} {locs : List Loc} {ls : Array Slot} {ws : va_W} (hr : meth.sig.returnType = ret) (hlocks : meth.locks = false) (X : Cx p s m #[Value.ref b] c cL_law 4 RL D cy) (hXs : va_X b L xs s s.heap) (hbl : b < s.heap.size) (hbA : ¬ A b) (hAs : ∀ q, A q → s.heap.size ≤ q) (hL : L ≤ 3072) (hcs : cells ≤ 600000 ∧ slots ≤ 7302250) (hW : WL D A s.heap ws H locs) (hj : j ≤ 3100) (hj6 : ¬ j + 6 ≤ L) {v1 v2 : Value} (hl : lv_has ls 4 [(3, .int (nI j)), (2, v2), (1, v1), (0, .ref b)]) : W p l e room_1 s m #[Value.ref b] below meth c H locs cells slots (lw_Z below #[Value.ref b] s) (F0 m 18 ls []) := by
  have hx := X.1
  have hb := X.2.1
  refine lv_iload_n hx hb dL_law_18 rfl (lv_at hl 0 rfl) ?_
  refine lv_aload_n hx hb dL_law_19 rfl (lv_at hl 3 rfl) ?_
  refine va_slen hx hb hXs hbl hbA hW.2.2 dL_law_20 ?_
  refine lv_bipush (v := 6) hx hb dL_law_21 (by decide) ?_
  refine lv_isub hx hb dL_law_23 ?_
  refine lv_icmp_gt (tgt := 1347) hx hb dL_law_24 (by decide) (fun _ => ?_) (fun hc => absurd (show nI L - 6 < nI j from by
    by_cases g : L < 6
    · exact Int32.lt_of_lt_of_le (sub_neg (a := L) (m := 6) g (by omega)) (nI_pos' (by omega))
    · rw [show nI L - 6 = nI (L - 6) from subN (b := 6) (by omega)]
      exact nI_lt (by omega) (by omega)) hc)
  refine lv_iconst (v := 1) hx hb dL_law_1347 (by decide) ?_
  refine va_forget (fun q hq => hAs _ (hW.2.2.2.2 q hq)) ?_
  refine W.widen (k := 600000) (n := 7302250) hcs.1 hcs.2 ?_
  exact lw_ret hx hb hr hlocks dL_law_1348
set_option maxHeartbeats 4000000 in
set_option maxRecDepth 100000 in
theorem law_loop (hr : meth.sig.returnType = ret) (hlocks : meth.locks = false) (X : Cx p s m #[Value.ref b] c cL_law 4 RL D cy) (hXs : va_X b L xs s s.heap) (hbl : b < s.heap.size) (hbA : ¬ A b) (hAs : ∀ q, A q → s.heap.size ≤ q) (hZ : SZ A s s.heap) (hA : ∀ q, s.heap.size ≤ q → A q) (hL : L ≤ 3072) (hcs : cells ≤ 600000 ∧ slots ≤ 7302250) : ∀ (n j : Nat) (Mc Mm : Mem) (H : Heap) (locs : List Loc) (ls : Array Slot), L < j + n → j ≤ 3100 → Sim Mc Mm → WL D A s.heap (WS 43 adC (CC adC cy) Mc ++ WS 20 adM (CM adM cy) Mm) H locs → lv_has ls 4 [(3, .int (nI j)), (2, .ref (adM 0)), (1, .ref (adC 0)), (0, .ref b)] → W p l e room_1 s m #[Value.ref b] below meth c H locs cells slots (lw_Z below #[Value.ref b] s) (F0 m 18 ls []) := by
  intro n
  induction n with
  | zero =>
    intro j Mc Mm H locs ls hn hj hS hW hl
    exact law_end hr hlocks X hXs hbl hbA hAs hL hcs hW hj (by omega) hl
  | succ n ih =>
    intro j Mc Mm H locs ls hn hj hS hW hl
    have hx := X.1
    have hb := X.2.1
    by_cases hj6 : ¬ j + 6 ≤ L
    · exact law_end hr hlocks X hXs hbl hbA hAs hL hcs hW hj hj6 hl
    replace hj6 : j + 6 ≤ L := by omega
    have next : ∀ (Mc' Mm' : Mem) (H1 : Heap) (locs1 : List Loc), Sim Mc' Mm' → WL D A s.heap (WS 43 adC (CC adC cy) Mc' ++ WS 20 adM (CM adM cy) Mm') H1 locs1 → W p l e room_1 s m #[Value.ref b] below meth c H1 locs1 cells slots (lw_Z below #[Value.ref b] s) (F0 m 1341 ls []) := by
      intro Mc' Mm' H1 locs1 hS1 hW1
      refine lv_iinc (v := nI (j + 6)) (lv' := [(3, .int (nI (j + 6))), (2, .ref (adM 0)), (1, .ref (adC 0)), (0, .ref b)]) hx hb dL_law_1341 hl (k := 0) rfl (addN j 6) (by decide) rfl (fun ls hl => ?_)
      refine lv_goto (tgt := 18) hx hb dL_law_1344 (by decide) ?_
      exact ih (j + 6) Mc' Mm' H1 locs1 ls (by omega) (by omega) hS1 hW1 hl
    refine lv_iload_n hx hb dL_law_18 rfl (lv_at hl 0 rfl) ?_
    refine lv_aload_n hx hb dL_law_19 rfl (lv_at hl 3 rfl) ?_
    refine va_slen hx hb hXs hbl hbA hW.2.2 dL_law_20 ?_
    refine lv_bipush (v := 6) hx hb dL_law_21 (by decide) ?_
    refine lv_isub hx hb dL_law_23 ?_
    refine lv_icmp_gt (tgt := 1347) hx hb dL_law_24 (by decide) (fun hc => absurd hc (show ¬ nI L - 6 < nI j from by
      rw [show nI L - 6 = nI (L - 6) from subN (b := 6) (by omega)]
      exact nI_nlt (by omega) (by omega))) (fun _ => ?_)
    refine lv_aload_n hx hb dL_law_27 rfl (lv_at hl 3 rfl) ?_
    refine lv_iload_n hx hb dL_law_28 rfl (lv_at hl 0 rfl) ?_
    refine va_sld hx hb hXs hbl hbA hW.2.2 (show vp_in (nI j) L from nI_in (by omega) (by omega)) dL_law_29 ?_
    refine lv_bipush (v := 63) hx hb dL_law_30 (by decide) ?_
    refine lv_iand hx hb dL_law_32 ?_
    generalize xs (nI j).toNatClampNeg &&& 63 = v
    by_cases hc0 : v = 0
    · refine lv_tableIn (tgt := 208) hx hb dL_law_33 (by rw [hc0]; decide) (by rw [hc0]; decide) (by rw [hc0]; rfl) (by decide) ?_
      exact lc_0 X hXs hbl hbA hZ hA hW hS hj6 hL hl hcs next
    by_cases hc1 : v = 1
    · refine lv_tableIn (tgt := 241) hx hb dL_law_33 (by rw [hc1]; decide) (by rw [hc1]; decide) (by rw [hc1]; rfl) (by decide) ?_
      exact lc_1 X hXs hbl hbA hZ hA hW hS hj6 hL hl hcs next
    by_cases hc2 : v = 2
    · refine lv_tableIn (tgt := 284) hx hb dL_law_33 (by rw [hc2]; decide) (by rw [hc2]; decide) (by rw [hc2]; rfl) (by decide) ?_
      exact lc_2 X hXs hbl hbA hZ hA hW hS hj6 hL hl hcs next
    by_cases hc3 : v = 3
    · refine lv_tableIn (tgt := 317) hx hb dL_law_33 (by rw [hc3]; decide) (by rw [hc3]; decide) (by rw [hc3]; rfl) (by decide) ?_
      exact lc_3 X hXs hbl hbA hZ hA hW hS hj6 hL hl hcs next
    by_cases hc4 : v = 4
    · refine lv_tableIn (tgt := 340) hx hb dL_law_33 (by rw [hc4]; decide) (by rw [hc4]; decide) (by rw [hc4]; rfl) (by decide) ?_
      exact lc_4 X hXs hbl hbA hZ hA hW hS hj6 hL hl hcs next
    by_cases hc5 : v = 5
    · refine lv_tableIn (tgt := 403) hx hb dL_law_33 (by rw [hc5]; decide) (by rw [hc5]; decide) (by rw [hc5]; rfl) (by decide) ?_
      exact lc_5 X hXs hbl hbA hZ hA hW hS hj6 hL hl hcs next
    by_cases hc6 : v = 6
    · refine lv_tableIn (tgt := 426) hx hb dL_law_33 (by rw [hc6]; decide) (by rw [hc6]; decide) (by rw [hc6]; rfl) (by decide) ?_
      exact lc_6 X hXs hbl hbA hZ hA hW hS hj6 hL hl hcs next
    by_cases hc7 : v = 7
    · refine lv_tableIn (tgt := 459) hx hb dL_law_33 (by rw [hc7]; decide) (by rw [hc7]; decide) (by rw [hc7]; rfl) (by decide) ?_
      exact lc_7 X hXs hbl hbA hZ hA hW hS hj6 hL hl hcs next
    by_cases hc8 : v = 8
    · refine lv_tableIn (tgt := 502) hx hb dL_law_33 (by rw [hc8]; decide) (by rw [hc8]; decide) (by rw [hc8]; rfl) (by decide) ?_
      exact lc_8 X hXs hbl hbA hZ hA hW hS hj6 hL hl hcs next
    by_cases hc9 : v = 9
    · refine lv_tableIn (tgt := 525) hx hb dL_law_33 (by rw [hc9]; decide) (by rw [hc9]; decide) (by rw [hc9]; rfl) (by decide) ?_
      exact lc_9 X hXs hbl hbA hZ hA hW hS hj6 hL hl hcs next
    by_cases hc10 : v = 10
    · refine lv_tableIn (tgt := 548) hx hb dL_law_33 (by rw [hc10]; decide) (by rw [hc10]; decide) (by rw [hc10]; rfl) (by decide) ?_
      exact lc_10 X hXs hbl hbA hZ hA hW hS hj6 hL hl hcs next
    by_cases hc11 : v = 11
    · refine lv_tableIn (tgt := 581) hx hb dL_law_33 (by rw [hc11]; decide) (by rw [hc11]; decide) (by rw [hc11]; rfl) (by decide) ?_
      exact lc_11 X hXs hbl hbA hZ hA hW hS hj6 hL hl hcs next
    by_cases hc12 : v = 12
    · refine lv_tableIn (tgt := 614) hx hb dL_law_33 (by rw [hc12]; decide) (by rw [hc12]; decide) (by rw [hc12]; rfl) (by decide) ?_
      exact lc_12 X hXs hbl hbA hZ hA hW hS hj6 hL hl hcs next
    by_cases hc13 : v = 13
    · refine lv_tableIn (tgt := 627) hx hb dL_law_33 (by rw [hc13]; decide) (by rw [hc13]; decide) (by rw [hc13]; rfl) (by decide) ?_
      exact lc_13 X hXs hbl hbA hZ hA hW hS hj6 hL hl hcs next
    by_cases hc14 : v = 14
    · refine lv_tableIn (tgt := 660) hx hb dL_law_33 (by rw [hc14]; decide) (by rw [hc14]; decide) (by rw [hc14]; rfl) (by decide) ?_
      exact lc_14 X hXs hbl hbA hZ hA hW hS hj6 hL hl hcs next
    by_cases hc15 : v = 15
    · refine lv_tableIn (tgt := 693) hx hb dL_law_33 (by rw [hc15]; decide) (by rw [hc15]; decide) (by rw [hc15]; rfl) (by decide) ?_
      exact lc_15 X hXs hbl hbA hZ hA hW hS hj6 hL hl hcs next
    by_cases hc16 : v = 16
    · refine lv_tableIn (tgt := 726) hx hb dL_law_33 (by rw [hc16]; decide) (by rw [hc16]; decide) (by rw [hc16]; rfl) (by decide) ?_
      exact lc_16 X hXs hbl hbA hZ hA hW hS hj6 hL hl hcs next
    by_cases hc17 : v = 17
    · refine lv_tableIn (tgt := 749) hx hb dL_law_33 (by rw [hc17]; decide) (by rw [hc17]; decide) (by rw [hc17]; rfl) (by decide) ?_
      exact lc_17 X hXs hbl hbA hZ hA hW hS hj6 hL hl hcs next
    by_cases hc18 : v = 18
    · refine lv_tableIn (tgt := 772) hx hb dL_law_33 (by rw [hc18]; decide) (by rw [hc18]; decide) (by rw [hc18]; rfl) (by decide) ?_
      exact lc_18 X hXs hbl hbA hZ hA hW hS hj6 hL hl hcs next
    by_cases hc19 : v = 19
    · refine lv_tableIn (tgt := 795) hx hb dL_law_33 (by rw [hc19]; decide) (by rw [hc19]; decide) (by rw [hc19]; rfl) (by decide) ?_
      exact lc_19 X hXs hbl hbA hZ hA hW hS hj6 hL hl hcs next
    by_cases hc20 : v = 20
    · refine lv_tableIn (tgt := 828) hx hb dL_law_33 (by rw [hc20]; decide) (by rw [hc20]; decide) (by rw [hc20]; rfl) (by decide) ?_
      exact lc_20 X hXs hbl hbA hZ hA hW hS hj6 hL hl hcs next
    by_cases hc21 : v = 21
    · refine lv_tableIn (tgt := 871) hx hb dL_law_33 (by rw [hc21]; decide) (by rw [hc21]; decide) (by rw [hc21]; rfl) (by decide) ?_
      exact lc_21 X hXs hbl hbA hZ hA hW hS hj6 hL hl hcs next
    by_cases hc22 : v = 22
    · refine lv_tableIn (tgt := 914) hx hb dL_law_33 (by rw [hc22]; decide) (by rw [hc22]; decide) (by rw [hc22]; rfl) (by decide) ?_
      exact lc_22 X hXs hbl hbA hZ hA hW hS hj6 hL hl hcs next
    by_cases hc23 : v = 23
    · refine lv_tableIn (tgt := 927) hx hb dL_law_33 (by rw [hc23]; decide) (by rw [hc23]; decide) (by rw [hc23]; rfl) (by decide) ?_
      exact lc_23 X hXs hbl hbA hZ hA hW hS hj6 hL hl hcs next
    by_cases hc24 : v = 24
    · refine lv_tableIn (tgt := 950) hx hb dL_law_33 (by rw [hc24]; decide) (by rw [hc24]; decide) (by rw [hc24]; rfl) (by decide) ?_
      exact lc_24 X hXs hbl hbA hZ hA hW hS hj6 hL hl hcs next
    by_cases hc25 : v = 25
    · refine lv_tableIn (tgt := 973) hx hb dL_law_33 (by rw [hc25]; decide) (by rw [hc25]; decide) (by rw [hc25]; rfl) (by decide) ?_
      exact lc_25 X hXs hbl hbA hZ hA hW hS hj6 hL hl hcs next
    by_cases hc26 : v = 26
    · refine lv_tableIn (tgt := 996) hx hb dL_law_33 (by rw [hc26]; decide) (by rw [hc26]; decide) (by rw [hc26]; rfl) (by decide) ?_
      exact lc_26 X hXs hbl hbA hZ hA hW hS hj6 hL hl hcs next
    by_cases hc27 : v = 27
    · refine lv_tableIn (tgt := 1029) hx hb dL_law_33 (by rw [hc27]; decide) (by rw [hc27]; decide) (by rw [hc27]; rfl) (by decide) ?_
      exact lc_27 X hXs hbl hbA hZ hA hW hS hj6 hL hl hcs next
    by_cases hc28 : v = 28
    · refine lv_tableIn (tgt := 1062) hx hb dL_law_33 (by rw [hc28]; decide) (by rw [hc28]; decide) (by rw [hc28]; rfl) (by decide) ?_
      exact lc_28 X hXs hbl hbA hZ hA hW hS hj6 hL hl hcs next
    by_cases hc29 : v = 29
    · refine lv_tableIn (tgt := 1095) hx hb dL_law_33 (by rw [hc29]; decide) (by rw [hc29]; decide) (by rw [hc29]; rfl) (by decide) ?_
      exact lc_29 X hXs hbl hbA hZ hA hW hS hj6 hL hl hcs next
    by_cases hc30 : v = 30
    · refine lv_tableIn (tgt := 1118) hx hb dL_law_33 (by rw [hc30]; decide) (by rw [hc30]; decide) (by rw [hc30]; rfl) (by decide) ?_
      exact lc_30 X hXs hbl hbA hZ hA hW hS hj6 hL hl hcs next
    by_cases hc31 : v = 31
    · refine lv_tableIn (tgt := 1161) hx hb dL_law_33 (by rw [hc31]; decide) (by rw [hc31]; decide) (by rw [hc31]; rfl) (by decide) ?_
      exact lc_31 X hXs hbl hbA hZ hA hW hS hj6 hL hl hcs next
    by_cases hc32 : v = 32
    · refine lv_tableIn (tgt := 1194) hx hb dL_law_33 (by rw [hc32]; decide) (by rw [hc32]; decide) (by rw [hc32]; rfl) (by decide) ?_
      exact lc_32 X hXs hbl hbA hZ hA hW hS hj6 hL hl hcs next
    by_cases hc33 : v = 33
    · refine lv_tableIn (tgt := 1227) hx hb dL_law_33 (by rw [hc33]; decide) (by rw [hc33]; decide) (by rw [hc33]; rfl) (by decide) ?_
      exact lc_33 X hXs hbl hbA hZ hA hW hS hj6 hL hl hcs next
    by_cases hc34 : v = 34
    · refine lv_tableIn (tgt := 1240) hx hb dL_law_33 (by rw [hc34]; decide) (by rw [hc34]; decide) (by rw [hc34]; rfl) (by decide) ?_
      exact lc_34 X hXs hbl hbA hZ hA hW hS hj6 hL hl hcs next
    by_cases hc35 : v = 35
    · refine lv_tableIn (tgt := 1254) hx hb dL_law_33 (by rw [hc35]; decide) (by rw [hc35]; decide) (by rw [hc35]; rfl) (by decide) ?_
      exact lc_35 X hXs hbl hbA hZ hA hW hS hj6 hL hl hcs next
    by_cases hc36 : v = 36
    · refine lv_tableIn (tgt := 1268) hx hb dL_law_33 (by rw [hc36]; decide) (by rw [hc36]; decide) (by rw [hc36]; rfl) (by decide) ?_
      exact lc_36 X hXs hbl hbA hZ hA hW hS hj6 hL hl hcs next
    by_cases hc37 : v = 37
    · refine lv_tableIn (tgt := 1291) hx hb dL_law_33 (by rw [hc37]; decide) (by rw [hc37]; decide) (by rw [hc37]; rfl) (by decide) ?_
      exact lc_37 X hXs hbl hbA hZ hA hW hS hj6 hL hl hcs next
    by_cases hc38 : v = 38
    · refine lv_tableIn (tgt := 1304) hx hb dL_law_33 (by rw [hc38]; decide) (by rw [hc38]; decide) (by rw [hc38]; rfl) (by decide) ?_
      exact lc_38 X hXs hbl hbA hZ hA hW hS hj6 hL hl hcs next
    by_cases hc39 : v = 39
    · refine lv_tableIn (tgt := 1327) hx hb dL_law_33 (by rw [hc39]; decide) (by rw [hc39]; decide) (by rw [hc39]; rfl) (by decide) ?_
      exact lc_39 X hXs hbl hbA hZ hA hW hS hj6 hL hl hcs next
    refine lv_tableOut (tgt := 1341) hx hb dL_law_33 (by have q0 := sw_ne (a := 0) hc0 (by decide); have q1 := sw_ne (a := 1) hc1 (by decide); have q2 := sw_ne (a := 2) hc2 (by decide); have q3 := sw_ne (a := 3) hc3 (by decide); have q4 := sw_ne (a := 4) hc4 (by decide); have q5 := sw_ne (a := 5) hc5 (by decide); have q6 := sw_ne (a := 6) hc6 (by decide); have q7 := sw_ne (a := 7) hc7 (by decide); have q8 := sw_ne (a := 8) hc8 (by decide); have q9 := sw_ne (a := 9) hc9 (by decide); have q10 := sw_ne (a := 10) hc10 (by decide); have q11 := sw_ne (a := 11) hc11 (by decide); have q12 := sw_ne (a := 12) hc12 (by decide); have q13 := sw_ne (a := 13) hc13 (by decide); have q14 := sw_ne (a := 14) hc14 (by decide); have q15 := sw_ne (a := 15) hc15 (by decide); have q16 := sw_ne (a := 16) hc16 (by decide); have q17 := sw_ne (a := 17) hc17 (by decide); have q18 := sw_ne (a := 18) hc18 (by decide); have q19 := sw_ne (a := 19) hc19 (by decide); have q20 := sw_ne (a := 20) hc20 (by decide); have q21 := sw_ne (a := 21) hc21 (by decide); have q22 := sw_ne (a := 22) hc22 (by decide); have q23 := sw_ne (a := 23) hc23 (by decide); have q24 := sw_ne (a := 24) hc24 (by decide); have q25 := sw_ne (a := 25) hc25 (by decide); have q26 := sw_ne (a := 26) hc26 (by decide); have q27 := sw_ne (a := 27) hc27 (by decide); have q28 := sw_ne (a := 28) hc28 (by decide); have q29 := sw_ne (a := 29) hc29 (by decide); have q30 := sw_ne (a := 30) hc30 (by decide); have q31 := sw_ne (a := 31) hc31 (by decide); have q32 := sw_ne (a := 32) hc32 (by decide); have q33 := sw_ne (a := 33) hc33 (by decide); have q34 := sw_ne (a := 34) hc34 (by decide); have q35 := sw_ne (a := 35) hc35 (by decide); have q36 := sw_ne (a := 36) hc36 (by decide); have q37 := sw_ne (a := 37) hc37 (by decide); have q38 := sw_ne (a := 38) hc38 (by decide); have q39 := sw_ne (a := 39) hc39 (by decide); omega) (by decide) ?_
    exact next Mc Mm H locs hS hW
end LL
