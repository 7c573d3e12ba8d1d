/-! THE CLAIM OUT OF ONE WALK OF THE LAW'S BODY. Your part is whole_start (and what it stands on); all else here is the same for every law, but numbers. -/
def R_law : String := "TubeWordsLaw"
def lw_P (b : Addr) (xs : List Int32) (args : Array Value) (s : State) : Prop := args = #[.ref b] ∧ s.IntsAt b xs ∧ xs.length ≤ 3072 ∧ (Jvm.Cond.and given_1 narrow_1).before args s = true
def lw_Q (_ : Array Value) (s : State) (o : Outcome) (t : State) : Prop := o = .returned (some (.int 1)) ∧ Framed s o t [] 600000 7302250
def lw_Z (below : List Frame) (a : Array Value) (s : State) : State → Prop := fun t => ∃ o, t.status = .running ∧ Ended t below o ∧ lw_Q a s o t
/-- the law's own end, with 1 on the stack, nothing written that was there before, its room as the claim has it -/
theorem lw_ret {p : Program} {l : Launch} {e : Env} {s : State} {m : MethodId} {below : List Frame} {meth : Method} {c : Code} {b : Nat} (hx : p.tables.exec = Jvm.exec) (hb : c.code = code) (hr : meth.sig.returnType = ret) (hlocks : meth.locks = false) {pc : Nat} {H : Heap} {ls : Array Slot} (hdg : decode code pc = .ok (.ireturn, 1)) : W p l e room_1 s m #[Value.ref b] below meth c H [] 600000 7302250 (lw_Z below #[Value.ref b] s) (F0 m pc ls [.int 1]) := by
  intro T hT X
  obtain ⟨fs, hret, hrun, hended, hW, hframe⟩ := X.leave (v := some (.int 1)) (hlocks := hlocks) (fun h => by rw [hr] at h; cases h)
  have hmeth' : T.vm.method? m = some meth := X.method'
  refine ⟨T.setFrames fs, ?_, .returned (some (.int 1)), hrun, hended, rfl, ⟨_, rfl⟩, hW, hframe⟩
  jvm_step X.here [X.here.top, hx, hb, hdg, hmeth', hr, ret, narrow_b1]
  (try refine ⟨rfl, ?_⟩); (try refine ⟨rfl, ?_⟩)
  first | (intro acts; rw [hret _ acts rfl rfl rfl]) | rw [hret _ _ rfl rfl rfl]
  exact Steps.refl _
/-- what holds at the law's entry: the machine, the code, the tables' words (any of lw_tbl by 'hts w (by decide +kernel)'), the script of L ints xs at the cell b, what the Statement gives of the start (any of its parts by flat_of_before) -/
def lw_At (p : Program) (s : State) (m : MethodId) (meth : Method) (c : Code) (b L : Nat) (xs : Nat → Int32) : Prop :=
  p.tables.exec = Jvm.exec ∧ c.code = code ∧ meth.sig.returnType = ret ∧ c.maxLocals = 4 ∧ s.vm.findClass R_law = some m.cls ∧ (∀ w ∈ lw_tbl, w.before #[Value.ref b] s = true) ∧ va_X b L xs s s.heap ∧ b < s.heap.size ∧ meth.locks = false ∧ (Jvm.Cond.and given_1 narrow_1).before #[Value.ref b] s = true
/-! the law's calls: a world of two objects -/
theorem WS_len (N : Nat) (ad : Nat → Nat) (C : CF) (M : Mem) : (WS N ad C M).length = N := by simp [WS]
theorem P_left {D : va_G} {cl : List vw_C} {a b : va_W} {H : Heap} (h : va_P D cl (a ++ b) H) : va_P D cl a H := fun k q hk => h k q (by
  rw [List.getElem?_append_left (List.getElem?_eq_some_iff.mp hk).1]; exact hk)
theorem D_left {A : Nat → Prop} {a b : va_W} (h : va_D A (a ++ b)) : va_D A a := by
  have g : ∀ (k : Nat) (q : Nat × va_E), a[k]? = some q → (a ++ b)[k]? = some q := fun k q hk => by
    rw [List.getElem?_append_left (List.getElem?_eq_some_iff.mp hk).1]; exact hk
  exact ⟨fun i j p q hi hj e => h.1 i j p q (g i p hi) (g j q hj) e, fun k q hk => h.2 k q (g k q hk)⟩
theorem map_left (a b : va_W) (n : Nat) (hn : n = a.length) : (List.range n).map (fun i => (a ++ b)[i]?) = a.map some := by
  subst hn
  apply List.ext_getElem?
  intro i
  by_cases h : i < a.length
  · simp [h, List.getElem?_append_left h]
  · simp [Nat.le_of_not_lt h]
theorem map_right (a b : va_W) (n k : Nat) (hn : n = b.length) (hk : k = a.length) : ((List.range n).map (fun i => k + i)).map (fun i => (a ++ b)[i]?) = b.map some := by
  subst hn
  subst hk
  apply List.ext_getElem?
  intro i
  by_cases h : i < b.length
  · simp [h]
  · simp [Nat.le_of_not_lt h]
theorem WL.swap {D : va_G} {A : Nat → Prop} {H0 : Heap} {a b : va_W} {H : Heap} {locs : List Loc} (h : WL D A H0 (a ++ b) H locs) : WL D A H0 (b ++ a) H locs := by
  obtain ⟨h1, h2, h3⟩ := h
  exact ⟨va_P.swap (a := []) (b := a) (c := b) h1, va_D.swap (a := []) (b := a) (c := b) h2, h3⟩
section K1
variable {p : Program} {l : Launch} {e : Env} {s : State} {m : MethodId} {args : Array Value} {below : List Frame} {meth : Method} {c : Code} {H : Heap} {locs : List Loc} {cells slots : Nat} {Q : State → Prop}
variable {cc : ByteArray} {pc nL : Nat} {ls : Array Slot} {rest : List Value} {D : va_G} {A : Nat → Prop} {cy : Nat → ClassId} {own : String} {N : Nat} {ad : Nat → Nat} {C : CF} {M M' : Mem} {wr : va_W}
theorem WL.free (hA : ∀ q, s.heap.size ≤ q → A q) (hW : WL D A s.heap (WS N ad C M ++ wr) H locs) : ∀ q, va_A (WS N ad C M) H.size q → A q :=
  va_free (wc := WS N ad C M) hW.2.1 hW.2.2 hA (List.range N) (map_left _ _ _ (WS_len ..).symm)
theorem WL.pre (X : Cx p s m args c cc nL own D cy) (hZ : SZ A s s.heap) (hA : ∀ q, s.heap.size ≤ q → A q) (hW : WL D A s.heap (WS N ad C M ++ wr) H locs) {U : State} (hU : U.heap = H) (hw : s.WarmedH U.vm) : PreW N C D cy ad H.size M U := by
  refine ⟨by rw [hU], by rw [hU]; exact P_left hW.1, va_K.moved hw.alike X.2.2.2.2.2.1, (D_left hW.2.1).weaken (fun _ _ _ _ => trivial), X.2.2.2.2.2.2.warm hw, ?_⟩
  rw [hU]
  exact hZ.sub hw.alike (hW.free hA) hW.2.2.2.1
theorem WL.back (hA : ∀ q, s.heap.size ≤ q → A q) (hW : WL D A s.heap (WS N ad C M ++ wr) H locs) (hnd : va_nd ((List.range wr.length).map (fun i => N + i)) = true) {t : State} {H1 : Heap} {locs1 : List Loc} (ht : t.heap = H1) (hk1 : ∀ q : Nat, q < H.size → ¬ va_A (WS N ad C M) H.size q → H1[q]? = H[q]?) (hB : AtW N C D cy ad (va_A (WS N ad C M) H.size) M' t) (hS : va_S A s.heap H1 locs1) : WL D A s.heap (WS N ad C M' ++ wr) H1 locs1 := by
  obtain ⟨hP1, hK1, hD1⟩ := hB
  rw [ht] at hP1
  obtain ⟨hP, hD⟩ := va_join (wr := wr) (wc := WS N ad C M) (w1 := WS N ad C M') hW.1 hW.2.1 (List.range N) ((List.range wr.length).map (fun i => N + i)) (map_left _ _ _ (WS_len ..).symm) (map_right _ _ _ _ rfl (WS_len ..).symm) hnd (fun i hi q => by
    obtain ⟨j, -, rfl⟩ := List.mem_map.mp hi
    have := List.mem_range.mp q
    omega) hk1 (hW.free hA) hP1 hD1
  exact WL.swap ⟨hP, hD, hS⟩
theorem WL.recv (X : Cx p s m args c cc nL own D cy) (hW : WL D A s.heap (WS N ad C M ++ wr) H locs) {k : Nat} {Cn : String} (h : isO C N k Cn) : ∃ cell : Cell, H[ad k]? = some cell ∧ cell.vm.isStatics = false ∧ s.vm.findClass Cn = some cell.cls := by
  obtain ⟨hk, ci, q, h1, h2, h3⟩ := h
  obtain ⟨fs, h4⟩ := h3 (M.1 k) (M.2 k)
  rw [← h2]
  exact va_recv X.2.2.2.2.2.1 (P_left hW.1) h1 (q0 := k) (by rw [WS_get hk, h4])
theorem k_calli (X : Cx p s m args c cc nL own D cy) (hl : ls.size = nL) (hZ : SZ A s s.heap) (hA : ∀ q, s.heap.size ≤ q → A q) (hW : WL D A s.heap (WS N ad C M ++ wr) H locs) (hnd : va_nd ((List.range wr.length).map (fun i => N + i)) = true) (hcs : cells ≤ 600000 ∧ slots ≤ 7302250) {r : Int32} {y : MethodName} {bytes : ByteArray} {maxL dc n index : Nat} {ret : Option FieldType} {As st : List Value} {k : Nat} {Cn : String} (hM : MetX l N C D cy ad y bytes maxL ret dc (.ref (ad k) :: As) M (fun A => QI r M' N C D cy ad A)) (hf : CWf y bytes maxL ret Cn n) (hlk : Cond.methodLink own index y ∈ lw_g) (ho : isO C N k Cn) (hn : As.length = n) (hR : dc + 1 ≤ 2048 ∧ 8 + (maxL + 11) + 40 * dc ≤ 84000) (hst : st = As.reverse ++ .ref (ad k) :: rest) (hrs : (rest.map fun v => v.category).sum ≤ 8) (hdg : decode cc pc = .ok (.invokevirtual index, 3))
    (kk : ∀ (H1 : Heap) (locs1 : List Loc), WL D A s.heap (WS N ad C M' ++ wr) H1 locs1 → W p l e room_1 s m args below meth c H1 locs1 cells slots Q (F0 m (pc + 3) ls (.int r :: rest))) : W p l e room_1 s m args below meth c H locs cells slots Q (F0 m pc ls st) := by
  subst hst
  refine va_calli (va_runV (As := As) (rest := rest) (b := ad k) ⟨X.1, X.2.1, X.2.2.1, X.2.2.2.1, X.2.2.2.2.1⟩ (hM H.size) (cwV n X.2.2.2.2.1 (good_wsV hf hlk) rfl rfl rfl ⟨hf.2.2.2.2.1, hf.2.2.2.2.2.1, hf.2.2.2.2.2.2.1, hf.2.2.2.2.2.2.2⟩ hR) ⟨fun a U g mk q => PreW.calls a q, hW.recv X ho, fun U hU hw => ⟨rfl, hW.pre X hZ hA hU hw⟩⟩ rfl hn hl rfl (lv_room hrs) hdg hcs) hW.2.2 (fun q _ h => hW.free hA q h) (hW.free hA) (fun r1 u t H1 locs1 ht hvm hw hB hz1 hk1 hS => ?_)
  obtain ⟨rfl, rfl⟩ := hw
  exact kk H1 locs1 (hW.back hA hnd ht hk1 hB hS)
theorem k_calll (X : Cx p s m args c cc nL own D cy) (hl : ls.size = nL) (hZ : SZ A s s.heap) (hA : ∀ q, s.heap.size ≤ q → A q) (hW : WL D A s.heap (WS N ad C M ++ wr) H locs) (hnd : va_nd ((List.range wr.length).map (fun i => N + i)) = true) (hcs : cells ≤ 600000 ∧ slots ≤ 7302250) {r : Int64} {y : MethodName} {bytes : ByteArray} {maxL dc n index : Nat} {ret : Option FieldType} {As st : List Value} {k : Nat} {Cn : String} (hM : MetX l N C D cy ad y bytes maxL ret dc (.ref (ad k) :: As) M (fun A => QL r M' N C D cy ad A)) (hf : CWf y bytes maxL ret Cn n) (hlk : Cond.methodLink own index y ∈ lw_g) (ho : isO C N k Cn) (hn : As.length = n) (hR : dc + 1 ≤ 2048 ∧ 8 + (maxL + 11) + 40 * dc ≤ 84000) (hst : st = As.reverse ++ .ref (ad k) :: rest) (hrs : (rest.map fun v => v.category).sum ≤ 8) (hdg : decode cc pc = .ok (.invokevirtual index, 3))
    (kk : ∀ (H1 : Heap) (locs1 : List Loc), WL D A s.heap (WS N ad C M' ++ wr) H1 locs1 → W p l e room_1 s m args below meth c H1 locs1 cells slots Q (F0 m (pc + 3) ls (.long r :: rest))) : W p l e room_1 s m args below meth c H locs cells slots Q (F0 m pc ls st) := by
  subst hst
  refine va_calll (va_runV (As := As) (rest := rest) (b := ad k) ⟨X.1, X.2.1, X.2.2.1, X.2.2.2.1, X.2.2.2.2.1⟩ (hM H.size) (cwV n X.2.2.2.2.1 (good_wsV hf hlk) rfl rfl rfl ⟨hf.2.2.2.2.1, hf.2.2.2.2.2.1, hf.2.2.2.2.2.2.1, hf.2.2.2.2.2.2.2⟩ hR) ⟨fun a U g mk q => PreW.calls a q, hW.recv X ho, fun U hU hw => ⟨rfl, hW.pre X hZ hA hU hw⟩⟩ rfl hn hl rfl (lv_room hrs) hdg hcs) hW.2.2 (fun q _ h => hW.free hA q h) (hW.free hA) (fun r1 u t H1 locs1 ht hvm hw hB hz1 hk1 hS => ?_)
  obtain ⟨rfl, rfl⟩ := hw
  exact kk H1 locs1 (hW.back hA hnd ht hk1 hB hS)
end K1
