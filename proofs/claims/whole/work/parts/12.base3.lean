/-! calls, by contract: of methods of the own class, of a nest mate, static ones -/
def CWf (y : MethodName) (bytes : ByteArray) (maxL : Nat) (ret : Option FieldType) (Cn : String) (n : Nat) : Prop := Cond.code y bytes maxL ret ∈ lw_g ∧ Cond.instanceMethod y ∈ lw_g ∧ Cond.selects Cn y y ∈ lw_g ∧ Cond.initialized Cn ∈ lw_g ∧ y.cls = Cn ∧ y.cls ≠ "java/lang/invoke/MethodHandle" ∧ y.cls ≠ "java/lang/invoke/VarHandle" ∧ (parseMethodDescriptor y.desc).map (fun d => d.parameters.length) = some n
def CSf (y : MethodName) (bytes : ByteArray) (maxL : Nat) (ret : Option FieldType) (n : Nat) : Prop := Cond.code y bytes maxL ret ∈ lw_g ∧ Cond.static y ∈ lw_g ∧ Cond.initialized y.cls ∈ lw_g ∧ y.cls ≠ "java/lang/invoke/MethodHandle" ∧ y.cls ≠ "java/lang/invoke/VarHandle" ∧ (parseMethodDescriptor y.desc).map (fun d => d.parameters.length) = some n
def isO (C : CF) (N k : Nat) (Cn : String) : Prop := k < N ∧ ∃ (ci : Nat) (q : vw_C), vwCl[ci]? = some q ∧ q.1 = Cn ∧ ∀ (fi : Nat → Int32) (fl : Nat → Int64), ∃ fs : List Value, C k fi fl = .inr (ci, fs)
theorem good_cdsG {y : MethodName} {bytes : ByteArray} {maxL : Nat} {ret : Option FieldType} (hc : Cond.code y bytes maxL ret ∈ lw_g) : GoodIn lw_g (cds y bytes maxL ret) := fun w hw => good_cds (fun _ h => h) hc w hw
theorem good_wsV {own Cn : String} {index n : Nat} {y : MethodName} {bytes : ByteArray} {maxL : Nat} {ret : Option FieldType} (hf : CWf y bytes maxL ret Cn n) (hl : Cond.methodLink own index y ∈ lw_g) : GoodIn lw_g (wsV own index Cn y (cds y bytes maxL ret)) := by
  intro w hw
  rcases List.mem_append.mp hw with h | h
  · simp only [List.mem_cons, List.not_mem_nil, or_false] at h
    rcases h with rfl | rfl | rfl | rfl
    · exact good_g (fun _ h => h) hl
    · exact good_g (fun _ h => h) hf.2.1
    · exact good_g (fun _ h => h) hf.2.2.1
    · exact good_g (fun _ h => h) hf.2.2.2.1
  · exact good_cdsG hf.1 w h
theorem good_wsS {own : String} {index n : Nat} {y : MethodName} {bytes : ByteArray} {maxL : Nat} {ret : Option FieldType} (hf : CSf y bytes maxL ret n) (hl : Cond.methodLink own index y ∈ lw_g) : GoodIn lw_g (va_wsS own index y (cds y bytes maxL ret)) := by
  intro w hw
  rcases List.mem_append.mp hw with h | h
  · simp only [List.mem_cons, List.not_mem_nil, or_false] at h
    rcases h with rfl | rfl | rfl
    · exact good_g (fun _ h => h) hl
    · exact good_g (fun _ h => h) hf.2.1
    · exact good_g (fun _ h => h) hf.2.2.1
  · exact good_cdsG hf.1 w h
section G2
variable {p : Program} {l : Launch} {e : Env} {s : State} {m : MethodId} {args : Array Value} {below : List Frame} {meth : Method} {c : Code} {H : Heap} {locs : List Loc} {d : Nat} {Q : State → Prop}
variable {cc : ByteArray} {pc nL : Nat} {ls : Array Slot} {rest : List Value} {D : va_G} {A : Nat → Prop} {cy : Nat → ClassId} {own : String} {N : Nat} {ad : Nat → Nat} {C : CF} {M M' : Mem}
theorem isO.recv (X : Cx p s m args c cc nL own D cy) (hW : Wd D N ad C A s.heap M H locs) {k : Nat} {Cn : String} (h : isO C N k Cn) : ∃ cell : Cell, H[ad k]? = some cell ∧ cell.vm.isStatics = false ∧ s.vm.findClass Cn = some cell.cls := by
  obtain ⟨hk, ci, q, h1, h2, h3⟩ := h
  obtain ⟨fs, h4⟩ := h3 (M.1 k) (M.2 k)
  rw [← h2]
  exact va_recv X.2.2.2.2.2.1 hW.1 h1 (q0 := k) (by rw [WS_get hk, h4])

theorem g_calliV (X : Cx p s m args c cc nL own D cy) (hl : ls.size = nL) (hZ : SZ A s s.heap) (hA : ∀ q, s.heap.size ≤ q → A q) (hW : Wd D N ad C A s.heap M H locs) {r : Int32} {y : MethodName} {bytes : ByteArray} {maxL dc n index : Nat} {ret : Option FieldType} {As st : List Value} {k : Nat} {Cn : String} (hM : MetX l N C D cy ad y bytes maxL ret dc (.ref (ad k) :: As) M (fun A => QI r M' N C D cy ad A)) (hf : CWf y bytes maxL ret Cn n) (hlk : Cond.methodLink own index y ∈ lw_g) (ho : isO C N k Cn) (hn : As.length = n) (hR : dc + 1 ≤ d ∧ 8 + (maxL + 11) + 40 * dc ≤ 40 * d) (hst : st = As.reverse ++ .ref (ad k) :: rest) (hrs : (rest.map fun v => v.category).sum ≤ 8) (hdg : decode cc pc = .ok (.invokevirtual index, 3))
    (kk : ∀ (H1 : Heap) (locs1 : List Loc), Wd D N ad C A s.heap M' H1 locs1 → W p l e (rmD d) s m args below meth c H1 locs1 0 0 Q (F0 m (pc + 3) ls (.int r :: rest))) : W p l e (rmD d) s m args below meth c H locs 0 0 Q (F0 m pc ls st) := by
  subst hst
  refine va_calli (va_runV (As := As) (rest := rest) (b := ad k) ⟨X.1, X.2.1, X.2.2.1, X.2.2.2.1, X.2.2.2.2.1⟩ (hM H.size) (cwV n X.2.2.2.2.1 (good_wsV hf hlk) rfl rfl rfl ⟨hf.2.2.2.2.1, hf.2.2.2.2.2.1, hf.2.2.2.2.2.2.1, hf.2.2.2.2.2.2.2⟩ hR) ⟨fun a U g mk q => PreW.calls a q, ho.recv X hW, fun U hU hw => ⟨rfl, hW.pre X hZ hA hU hw⟩⟩ rfl hn hl rfl (lv_room hrs) hdg ⟨Nat.le_refl _, Nat.le_refl _⟩) hW.2.2 (fun q _ h => hW.free hA q h) (hW.free hA) (fun r1 u t H1 locs1 ht hvm hw hB hz1 hk1 hS => ?_)
  obtain ⟨rfl, rfl⟩ := hw
  exact kk H1 locs1 (hW.back hA ht hB hS)
theorem g_calliN (X : Cx p s m args c cc nL own D cy) (hl : ls.size = nL) (hZ : SZ A s s.heap) (hA : ∀ q, s.heap.size ≤ q → A q) (hW : Wd D N ad C A s.heap M H locs) {r : Int32} {y : MethodName} {bytes : ByteArray} {maxL dc n index : Nat} {ret : Option FieldType} {As st : List Value} {k : Nat} {Cn host : String} (hM : MetX l N C D cy ad y bytes maxL ret dc (.ref (ad k) :: As) M (fun A => QI r M' N C D cy ad A)) (hf : CWf y bytes maxL ret Cn n) (hlk : (own, index, y, host) ∈ nestM) (ho : isO C N k Cn) (hn : As.length = n) (hR : dc + 1 ≤ d ∧ 8 + (maxL + 11) + 40 * dc ≤ 40 * d) (hst : st = As.reverse ++ .ref (ad k) :: rest) (hrs : (rest.map fun v => v.category).sum ≤ 8) (hdg : decode cc pc = .ok (.invokevirtual index, 3))
    (kk : ∀ (H1 : Heap) (locs1 : List Loc), Wd D N ad C A s.heap M' H1 locs1 → W p l e (rmD d) s m args below meth c H1 locs1 0 0 Q (F0 m (pc + 3) ls (.int r :: rest))) : W p l e (rmD d) s m args below meth c H locs 0 0 Q (F0 m pc ls st) := by
  subst hst
  refine va_calli (va_runVN (As := As) (rest := rest) (b := ad k) (C := Cn) (host := host) ⟨X.1, X.2.1, X.2.2.1, X.2.2.2.1, X.2.2.2.2.1⟩ (hM H.size) ⟨va_cnB n X.2.2.2.2.1 (good_cdsG hf.1) rfl rfl rfl (X.2.2.2.2.2.2.2 _ hlk) (by have h := X.2.2.2.2.1 _ hf.2.2.2.1; rw [← hf.2.2.2.2.1] at h; exact h) ⟨hf.2.2.2.2.2.1, hf.2.2.2.2.2.2.1, hf.2.2.2.2.2.2.2⟩ hR, X.2.2.2.2.1 _ hf.2.1, X.2.2.2.2.1 _ hf.2.2.1⟩ ⟨fun a U g mk q => PreW.calls a q, ho.recv X hW, fun U hU hw => ⟨rfl, hW.pre X hZ hA hU hw⟩⟩ rfl hn hl rfl (lv_room hrs) hdg ⟨Nat.le_refl _, Nat.le_refl _⟩) hW.2.2 (fun q _ h => hW.free hA q h) (hW.free hA) (fun r1 u t H1 locs1 ht hvm hw hB hz1 hk1 hS => ?_)
  obtain ⟨rfl, rfl⟩ := hw
  exact kk H1 locs1 (hW.back hA ht hB hS)
theorem g_calliS (X : Cx p s m args c cc nL own D cy) (hl : ls.size = nL) (hZ : SZ A s s.heap) (hA : ∀ q, s.heap.size ≤ q → A q) (hW : Wd D N ad C A s.heap M H locs) {r : Int32} {y : MethodName} {bytes : ByteArray} {maxL dc n index : Nat} {ret : Option FieldType} {As st : List Value} (hM : MetX l N C D cy ad y bytes maxL ret dc As M (fun A => QI r M' N C D cy ad A)) (hf : CSf y bytes maxL ret n) (hlk : Cond.methodLink own index y ∈ lw_g) (hn : As.length = n) (hR : dc + 1 ≤ d ∧ 8 + (maxL + 11) + 40 * dc ≤ 40 * d) (hst : st = As.reverse ++ rest) (hrs : (rest.map fun v => v.category).sum ≤ 8) (hdg : decode cc pc = .ok (.invokestatic index, 3))
    (kk : ∀ (H1 : Heap) (locs1 : List Loc), Wd D N ad C A s.heap M' H1 locs1 → W p l e (rmD d) s m args below meth c H1 locs1 0 0 Q (F0 m (pc + 3) ls (.int r :: rest))) : W p l e (rmD d) s m args below meth c H locs 0 0 Q (F0 m pc ls st) := by
  subst hst
  refine va_calli (va_runS (As := As) (rest := rest) ⟨X.1, X.2.1, X.2.2.1, X.2.2.2.1, X.2.2.2.2.1⟩ (hM H.size) (va_cwS n X.2.2.2.2.1 (good_wsS hf hlk) rfl rfl rfl ⟨hf.2.2.2.1, hf.2.2.2.2.1, hf.2.2.2.2.2⟩ hR) ⟨fun a U g mk q => PreW.calls a q, fun U hU hw => ⟨rfl, hW.pre X hZ hA hU hw⟩⟩ rfl hn hl rfl (lv_room hrs) hdg ⟨Nat.le_refl _, Nat.le_refl _⟩) hW.2.2 (fun q _ h => hW.free hA q h) (hW.free hA) (fun r1 u t H1 locs1 ht hvm hw hB hz1 hk1 hS => ?_)
  obtain ⟨rfl, rfl⟩ := hw
  exact kk H1 locs1 (hW.back hA ht hB hS)
theorem g_calllV (X : Cx p s m args c cc nL own D cy) (hl : ls.size = nL) (hZ : SZ A s s.heap) (hA : ∀ q, s.heap.size ≤ q → A q) (hW : Wd D N ad C A s.heap M H locs) {r : Int64} {y : MethodName} {bytes : ByteArray} {maxL dc n index : Nat} {ret : Option FieldType} {As st : List Value} {k : Nat} {Cn : String} (hM : MetX l N C D cy ad y bytes maxL ret dc (.ref (ad k) :: As) M (fun A => QL r M' N C D cy ad A)) (hf : CWf y bytes maxL ret Cn n) (hlk : Cond.methodLink own index y ∈ lw_g) (ho : isO C N k Cn) (hn : As.length = n) (hR : dc + 1 ≤ d ∧ 8 + (maxL + 11) + 40 * dc ≤ 40 * d) (hst : st = As.reverse ++ .ref (ad k) :: rest) (hrs : (rest.map fun v => v.category).sum ≤ 8) (hdg : decode cc pc = .ok (.invokevirtual index, 3))
    (kk : ∀ (H1 : Heap) (locs1 : List Loc), Wd D N ad C A s.heap M' H1 locs1 → W p l e (rmD d) s m args below meth c H1 locs1 0 0 Q (F0 m (pc + 3) ls (.long r :: rest))) : W p l e (rmD d) s m args below meth c H locs 0 0 Q (F0 m pc ls st) := by
  subst hst
  refine va_calll (va_runV (As := As) (rest := rest) (b := ad k) ⟨X.1, X.2.1, X.2.2.1, X.2.2.2.1, X.2.2.2.2.1⟩ (hM H.size) (cwV n X.2.2.2.2.1 (good_wsV hf hlk) rfl rfl rfl ⟨hf.2.2.2.2.1, hf.2.2.2.2.2.1, hf.2.2.2.2.2.2.1, hf.2.2.2.2.2.2.2⟩ hR) ⟨fun a U g mk q => PreW.calls a q, ho.recv X hW, fun U hU hw => ⟨rfl, hW.pre X hZ hA hU hw⟩⟩ rfl hn hl rfl (lv_room hrs) hdg ⟨Nat.le_refl _, Nat.le_refl _⟩) hW.2.2 (fun q _ h => hW.free hA q h) (hW.free hA) (fun r1 u t H1 locs1 ht hvm hw hB hz1 hk1 hS => ?_)
  obtain ⟨rfl, rfl⟩ := hw
  exact kk H1 locs1 (hW.back hA ht hB hS)
theorem g_calllN (X : Cx p s m args c cc nL own D cy) (hl : ls.size = nL) (hZ : SZ A s s.heap) (hA : ∀ q, s.heap.size ≤ q → A q) (hW : Wd D N ad C A s.heap M H locs) {r : Int64} {y : MethodName} {bytes : ByteArray} {maxL dc n index : Nat} {ret : Option FieldType} {As st : List Value} {k : Nat} {Cn host : String} (hM : MetX l N C D cy ad y bytes maxL ret dc (.ref (ad k) :: As) M (fun A => QL r M' N C D cy ad A)) (hf : CWf y bytes maxL ret Cn n) (hlk : (own, index, y, host) ∈ nestM) (ho : isO C N k Cn) (hn : As.length = n) (hR : dc + 1 ≤ d ∧ 8 + (maxL + 11) + 40 * dc ≤ 40 * d) (hst : st = As.reverse ++ .ref (ad k) :: rest) (hrs : (rest.map fun v => v.category).sum ≤ 8) (hdg : decode cc pc = .ok (.invokevirtual index, 3))
    (kk : ∀ (H1 : Heap) (locs1 : List Loc), Wd D N ad C A s.heap M' H1 locs1 → W p l e (rmD d) s m args below meth c H1 locs1 0 0 Q (F0 m (pc + 3) ls (.long r :: rest))) : W p l e (rmD d) s m args below meth c H locs 0 0 Q (F0 m pc ls st) := by
  subst hst
  refine va_calll (va_runVN (As := As) (rest := rest) (b := ad k) (C := Cn) (host := host) ⟨X.1, X.2.1, X.2.2.1, X.2.2.2.1, X.2.2.2.2.1⟩ (hM H.size) ⟨va_cnB n X.2.2.2.2.1 (good_cdsG hf.1) rfl rfl rfl (X.2.2.2.2.2.2.2 _ hlk) (by have h := X.2.2.2.2.1 _ hf.2.2.2.1; rw [← hf.2.2.2.2.1] at h; exact h) ⟨hf.2.2.2.2.2.1, hf.2.2.2.2.2.2.1, hf.2.2.2.2.2.2.2⟩ hR, X.2.2.2.2.1 _ hf.2.1, X.2.2.2.2.1 _ hf.2.2.1⟩ ⟨fun a U g mk q => PreW.calls a q, ho.recv X hW, fun U hU hw => ⟨rfl, hW.pre X hZ hA hU hw⟩⟩ rfl hn hl rfl (lv_room hrs) hdg ⟨Nat.le_refl _, Nat.le_refl _⟩) hW.2.2 (fun q _ h => hW.free hA q h) (hW.free hA) (fun r1 u t H1 locs1 ht hvm hw hB hz1 hk1 hS => ?_)
  obtain ⟨rfl, rfl⟩ := hw
  exact kk H1 locs1 (hW.back hA ht hB hS)
theorem g_calllS (X : Cx p s m args c cc nL own D cy) (hl : ls.size = nL) (hZ : SZ A s s.heap) (hA : ∀ q, s.heap.size ≤ q → A q) (hW : Wd D N ad C A s.heap M H locs) {r : Int64} {y : MethodName} {bytes : ByteArray} {maxL dc n index : Nat} {ret : Option FieldType} {As st : List Value} (hM : MetX l N C D cy ad y bytes maxL ret dc As M (fun A => QL r M' N C D cy ad A)) (hf : CSf y bytes maxL ret n) (hlk : Cond.methodLink own index y ∈ lw_g) (hn : As.length = n) (hR : dc + 1 ≤ d ∧ 8 + (maxL + 11) + 40 * dc ≤ 40 * d) (hst : st = As.reverse ++ rest) (hrs : (rest.map fun v => v.category).sum ≤ 8) (hdg : decode cc pc = .ok (.invokestatic index, 3))
    (kk : ∀ (H1 : Heap) (locs1 : List Loc), Wd D N ad C A s.heap M' H1 locs1 → W p l e (rmD d) s m args below meth c H1 locs1 0 0 Q (F0 m (pc + 3) ls (.long r :: rest))) : W p l e (rmD d) s m args below meth c H locs 0 0 Q (F0 m pc ls st) := by
  subst hst
  refine va_calll (va_runS (As := As) (rest := rest) ⟨X.1, X.2.1, X.2.2.1, X.2.2.2.1, X.2.2.2.2.1⟩ (hM H.size) (va_cwS n X.2.2.2.2.1 (good_wsS hf hlk) rfl rfl rfl ⟨hf.2.2.2.1, hf.2.2.2.2.1, hf.2.2.2.2.2⟩ hR) ⟨fun a U g mk q => PreW.calls a q, fun U hU hw => ⟨rfl, hW.pre X hZ hA hU hw⟩⟩ rfl hn hl rfl (lv_room hrs) hdg ⟨Nat.le_refl _, Nat.le_refl _⟩) hW.2.2 (fun q _ h => hW.free hA q h) (hW.free hA) (fun r1 u t H1 locs1 ht hvm hw hB hz1 hk1 hS => ?_)
  obtain ⟨rfl, rfl⟩ := hw
  exact kk H1 locs1 (hW.back hA ht hB hS)
theorem g_callvV (X : Cx p s m args c cc nL own D cy) (hl : ls.size = nL) (hZ : SZ A s s.heap) (hA : ∀ q, s.heap.size ≤ q → A q) (hW : Wd D N ad C A s.heap M H locs) {y : MethodName} {bytes : ByteArray} {maxL dc n index : Nat} {ret : Option FieldType} {As st : List Value} {k : Nat} {Cn : String} (hM : MetX l N C D cy ad y bytes maxL ret dc (.ref (ad k) :: As) M (fun A => QV M' N C D cy ad A)) (hf : CWf y bytes maxL ret Cn n) (hlk : Cond.methodLink own index y ∈ lw_g) (ho : isO C N k Cn) (hn : As.length = n) (hR : dc + 1 ≤ d ∧ 8 + (maxL + 11) + 40 * dc ≤ 40 * d) (hst : st = As.reverse ++ .ref (ad k) :: rest) (hrs : (rest.map fun v => v.category).sum ≤ 8) (hdg : decode cc pc = .ok (.invokevirtual index, 3))
    (kk : ∀ (H1 : Heap) (locs1 : List Loc), Wd D N ad C A s.heap M' H1 locs1 → W p l e (rmD d) s m args below meth c H1 locs1 0 0 Q (F0 m (pc + 3) ls (rest))) : W p l e (rmD d) s m args below meth c H locs 0 0 Q (F0 m pc ls st) := by
  subst hst
  refine va_callv (va_runV (As := As) (rest := rest) (b := ad k) ⟨X.1, X.2.1, X.2.2.1, X.2.2.2.1, X.2.2.2.2.1⟩ (hM H.size) (cwV n X.2.2.2.2.1 (good_wsV hf hlk) rfl rfl rfl ⟨hf.2.2.2.2.1, hf.2.2.2.2.2.1, hf.2.2.2.2.2.2.1, hf.2.2.2.2.2.2.2⟩ hR) ⟨fun a U g mk q => PreW.calls a q, ho.recv X hW, fun U hU hw => ⟨rfl, hW.pre X hZ hA hU hw⟩⟩ rfl hn hl rfl (lv_room hrs) hdg ⟨Nat.le_refl _, Nat.le_refl _⟩) hW.2.2 (fun q _ h => hW.free hA q h) (hW.free hA) (fun u t H1 locs1 ht hvm hw hB hz1 hk1 hS => ?_)
  subst hw
  exact kk H1 locs1 (hW.back hA ht hB hS)
theorem g_callvN (X : Cx p s m args c cc nL own D cy) (hl : ls.size = nL) (hZ : SZ A s s.heap) (hA : ∀ q, s.heap.size ≤ q → A q) (hW : Wd D N ad C A s.heap M H locs) {y : MethodName} {bytes : ByteArray} {maxL dc n index : Nat} {ret : Option FieldType} {As st : List Value} {k : Nat} {Cn host : String} (hM : MetX l N C D cy ad y bytes maxL ret dc (.ref (ad k) :: As) M (fun A => QV M' N C D cy ad A)) (hf : CWf y bytes maxL ret Cn n) (hlk : (own, index, y, host) ∈ nestM) (ho : isO C N k Cn) (hn : As.length = n) (hR : dc + 1 ≤ d ∧ 8 + (maxL + 11) + 40 * dc ≤ 40 * d) (hst : st = As.reverse ++ .ref (ad k) :: rest) (hrs : (rest.map fun v => v.category).sum ≤ 8) (hdg : decode cc pc = .ok (.invokevirtual index, 3))
    (kk : ∀ (H1 : Heap) (locs1 : List Loc), Wd D N ad C A s.heap M' H1 locs1 → W p l e (rmD d) s m args below meth c H1 locs1 0 0 Q (F0 m (pc + 3) ls (rest))) : W p l e (rmD d) s m args below meth c H locs 0 0 Q (F0 m pc ls st) := by
  subst hst
  refine va_callv (va_runVN (As := As) (rest := rest) (b := ad k) (C := Cn) (host := host) ⟨X.1, X.2.1, X.2.2.1, X.2.2.2.1, X.2.2.2.2.1⟩ (hM H.size) ⟨va_cnB n X.2.2.2.2.1 (good_cdsG hf.1) rfl rfl rfl (X.2.2.2.2.2.2.2 _ hlk) (by have h := X.2.2.2.2.1 _ hf.2.2.2.1; rw [← hf.2.2.2.2.1] at h; exact h) ⟨hf.2.2.2.2.2.1, hf.2.2.2.2.2.2.1, hf.2.2.2.2.2.2.2⟩ hR, X.2.2.2.2.1 _ hf.2.1, X.2.2.2.2.1 _ hf.2.2.1⟩ ⟨fun a U g mk q => PreW.calls a q, ho.recv X hW, fun U hU hw => ⟨rfl, hW.pre X hZ hA hU hw⟩⟩ rfl hn hl rfl (lv_room hrs) hdg ⟨Nat.le_refl _, Nat.le_refl _⟩) hW.2.2 (fun q _ h => hW.free hA q h) (hW.free hA) (fun u t H1 locs1 ht hvm hw hB hz1 hk1 hS => ?_)
  subst hw
  exact kk H1 locs1 (hW.back hA ht hB hS)
theorem g_callvS (X : Cx p s m args c cc nL own D cy) (hl : ls.size = nL) (hZ : SZ A s s.heap) (hA : ∀ q, s.heap.size ≤ q → A q) (hW : Wd D N ad C A s.heap M H locs) {y : MethodName} {bytes : ByteArray} {maxL dc n index : Nat} {ret : Option FieldType} {As st : List Value} (hM : MetX l N C D cy ad y bytes maxL ret dc As M (fun A => QV M' N C D cy ad A)) (hf : CSf y bytes maxL ret n) (hlk : Cond.methodLink own index y ∈ lw_g) (hn : As.length = n) (hR : dc + 1 ≤ d ∧ 8 + (maxL + 11) + 40 * dc ≤ 40 * d) (hst : st = As.reverse ++ rest) (hrs : (rest.map fun v => v.category).sum ≤ 8) (hdg : decode cc pc = .ok (.invokestatic index, 3))
    (kk : ∀ (H1 : Heap) (locs1 : List Loc), Wd D N ad C A s.heap M' H1 locs1 → W p l e (rmD d) s m args below meth c H1 locs1 0 0 Q (F0 m (pc + 3) ls (rest))) : W p l e (rmD d) s m args below meth c H locs 0 0 Q (F0 m pc ls st) := by
  subst hst
  refine va_callv (va_runS (As := As) (rest := rest) ⟨X.1, X.2.1, X.2.2.1, X.2.2.2.1, X.2.2.2.2.1⟩ (hM H.size) (va_cwS n X.2.2.2.2.1 (good_wsS hf hlk) rfl rfl rfl ⟨hf.2.2.2.1, hf.2.2.2.2.1, hf.2.2.2.2.2⟩ hR) ⟨fun a U g mk q => PreW.calls a q, fun U hU hw => ⟨rfl, hW.pre X hZ hA hU hw⟩⟩ rfl hn hl rfl (lv_room hrs) hdg ⟨Nat.le_refl _, Nat.le_refl _⟩) hW.2.2 (fun q _ h => hW.free hA q h) (hW.free hA) (fun u t H1 locs1 ht hvm hw hB hz1 hk1 hS => ?_)
  subst hw
  exact kk H1 locs1 (hW.back hA ht hB hS)
end G2
