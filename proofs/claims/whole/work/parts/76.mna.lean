/-! a row of rows as it grows: the outer one of class cA at the address q, i inner ones of class cI behind it -/
def gC (cA : ClassId) (N q i : Nat) : Cell := arrV cA N (fun j => va_rf (if j < i then some (q + 1 + j) else none))
def gI (cI : ClassId) (K : Nat) : Cell := arrV cI K (fun _ => .int 0)
def gT (T : State) (cA cI : ClassId) (N K : Nat) : Nat → State
  | 0 => T.pushCell (gC cA N T.heap.size 0)
  | i + 1 => ((gT T cA cI N K i).pushCell (gI cI K)).setCell T.heap.size (gC cA N T.heap.size (i + 1))
theorem gC_0 (cA : ClassId) (N q : Nat) : ({ cls := cA, slots := Array.replicate N .null } : Cell) = gC cA N q 0 :=
  (arrV_new cA N .null).trans (congrArg (arrV cA N) (funext fun j => by simp [va_rf]))
theorem gI_e (cI : ClassId) (K : Nat) : ({ cls := cI, slots := Array.replicate K (.int 0) } : Cell) = gI cI K := arrV_new cI K (.int 0)
theorem gC_s (cA : ClassId) (N q i : Nat) : (gC cA N q i).setSlot i (.ref (q + 1 + i)) = gC cA N q (i + 1) := by
  unfold gC
  rw [arrV_store]
  refine congrArg (arrV cA N) (funext fun j => ?_)
  unfold updV
  by_cases e : j = i
  · rw [if_pos e, if_pos (by omega), e]; rfl
  · rw [if_neg e]
    show va_rf (if j < i then some (q + 1 + j) else none) = va_rf (if j < i + 1 then some (q + 1 + j) else none)
    by_cases h : j < i
    · rw [if_pos h, if_pos (by omega)]
    · rw [if_neg h, if_neg (by omega)]
theorem gT_f (T : State) (cA cI : ClassId) (N K : Nat) : ∀ i, (gT T cA cI N K i).heap.size = T.heap.size + 1 + i ∧ (gT T cA cI N K i).heap[T.heap.size]? = some (gC cA N T.heap.size i) ∧ (gT T cA cI N K i).vm = T.vm ∧ (gT T cA cI N K i).slotsUsed = T.slotsUsed + N + i * K ∧ (∀ x, x < T.heap.size → (gT T cA cI N K i).heap[x]? = T.heap[x]?) ∧ ∀ j, j < i → (gT T cA cI N K i).heap[T.heap.size + 1 + j]? = some (gI cI K)
  | 0 => ⟨by simp [gT, State.pushCell], by simp [gT, State.pushCell], rfl, by rw [gT, State.slotsUsed_pushCell, gC, arrV_size]; omega, fun x hx => State.heap_pushCell_of_lt _ _ hx, fun j hj => absurd hj (Nat.not_lt_zero j)⟩
  | i + 1 => by
    obtain ⟨a1, a2, a3, a4, a5, a6⟩ := gT_f T cA cI N K i
    have lt : ∀ x, x < T.heap.size + 1 + i → ((gT T cA cI N K i).pushCell (gI cI K)).heap[x]? = (gT T cA cI N K i).heap[x]? := fun x hx => State.heap_pushCell_of_lt _ _ (by rw [a1]; exact hx)
    have ne : ∀ x, x ≠ T.heap.size → (gT T cA cI N K (i + 1)).heap[x]? = ((gT T cA cI N K i).pushCell (gI cI K)).heap[x]? := fun x hx => State.heap_setCell_other (Ne.symm hx)
    refine ⟨?_, State.heap_setCell_self ((lt _ (by omega)).trans a2), ?_, ?_, fun x hx => ?_, fun j hj => ?_⟩
    · simp [gT, State.setCell, State.pushCell, a1]; omega
    · rw [gT]; exact a3
    · rw [gT, State.slotsUsed_setCell, State.slotsUsed_pushCell, a4, gI, arrV_size, Nat.succ_mul]; omega
    · rw [ne x (by omega), lt x (by omega)]; exact a5 x hx
    · rw [ne _ (by omega)]
      by_cases e : j = i
      · rw [e, ← a1]; simp [State.pushCell]
      · rw [lt _ (by omega)]; exact a6 j (by omega)
theorem gT_top (T : State) (f : JFrame) (cA cI : ClassId) (N K : Nat) : ∀ i, gT (T.setTop f) cA cI N K i = (gT T cA cI N K i).setTop f
  | 0 => rfl
  | i + 1 => by rw [gT, gT, gT_top T f cA cI N K i, State.heap_setTop, State.pushCell_setTop, State.setCell_setTop]
theorem gT_st {p : Program} {l : Launch} {e : Env} {s : State} {m : MethodId} {args : Array Value} {below : List Frame} {meth : Method} {c : Code} {locs : List Loc} {R : Room} {cells slots : Nat} {T : State} (X : Stand p l e R s m args below meth c T locs cells slots) (cA cI : ClassId) (N K : Nat) : ∀ i, Stand p l e R s m args below meth c (gT T cA cI N K i) locs (cells + 1 + i) (slots + N + i * K)
  | 0 => by
    have h := X.pushed (gC cA N T.heap.size 0)
    rw [show (gC cA N T.heap.size 0).slots.size = N from arrV_size _ _ _] at h
    rw [Nat.zero_mul]
    exact h
  | i + 1 => by
    obtain ⟨a1, a2, -⟩ := gT_f T cA cI N K i
    have h1 := (gT_st X cA cI N K i).pushed (gI cI K)
    rw [show (gI cI K).slots.size = K from arrV_size _ _ _] at h1
    have hc : ((gT T cA cI N K i).pushCell (gI cI K)).heap[T.heap.size]? = some (gC cA N T.heap.size i) := (State.heap_pushCell_of_lt (a := T.heap.size) _ _ (by rw [a1]; exact Nat.lt_of_lt_of_le (Nat.lt_succ_self _) (Nat.le_add_right _ _))).trans a2
    have h2 := (h1.stored hc i (.ref (T.heap.size + 1 + i))).dropFresh (fun x hx => by
      rw [List.mem_singleton.mp hx]
      exact X.heapGrown)
    rw [gC_s] at h2
    rw [show slots + N + (i + 1) * K = slots + N + i * K + K by rw [Nat.succ_mul]; omega]
    exact h2
theorem ref_fits {ty : FieldType} (v : Value) (hv : v = .null ∨ ∃ a, v = .ref a) : fits (.array ty) v = true := by
  rcases hv with rfl | ⟨a, rfl⟩ <;> rfl

section MK
variable {E : CtlPost} {e : Env} {d : Bool} {acts : List Action} {s : State}
theorem wp_row {cI cc : ClassId} {kI : Class} {ty : FieldType} {k : Int32} {K : Nat} (hz : defaultValue ty = .int 0) (hkI : s.vm.classes[cI]? = some kI) (hkd : kI.kind = .array cc ty) (hk : ¬ k < 0) (hK : k.toNatClampNeg = K) (h1 : ¬ K > e.platform.arrayLengthLimit) (h2 : ¬ K * componentBytes ty > e.platform.maxHeapBytes) (hdf : fits ty (defaultValue ty) = true) (h3 : s.heap.size < e.platform.maxCells) (h4 : s.slotsUsed + K ≤ e.platform.maxSlots) {Q : Addr → Pre} (hq : ∀ acts', Q s.heap.size d acts' (s.pushCell (gI cI K))) : wp (multianewarray.make cI [k]) Q E e d acts s := by
  subst hK
  rw [multianewarray.make]
  simp only [wp_bind', W.ite, hk, if_false, wp_pure', W.theClass, hkI, hkd, Option.some.injEq, exists_eq_left']
  refine W.newArray_of hkI hkd h1 h2 h3 h4 hdf (fun acts' => ?_)
  rw [hz, gI_e]
  exact hq acts'
theorem wp_rows {cA cI cc : ClassId} {kA kI : Class} {ty : FieldType} {n k : Int32} {N K : Nat} (hz : defaultValue ty = .int 0) (hkA : s.vm.classes[cA]? = some kA) (hkdA : kA.kind = .array cI (.array ty)) (hkI : s.vm.classes[cI]? = some kI) (hkdI : kI.kind = .array cc ty) (hn : ¬ n < 0) (hk : ¬ k < 0) (hN : n.toNatClampNeg = N) (hK : k.toNatClampNeg = K) (h1 : ¬ N > e.platform.arrayLengthLimit) (h2 : ¬ N * componentBytes (.array ty) > e.platform.maxHeapBytes) (h3 : ¬ K > e.platform.arrayLengthLimit) (h4 : ¬ K * componentBytes ty > e.platform.maxHeapBytes) (hdf : fits ty (defaultValue ty) = true) (h5 : s.heap.size + 1 + N ≤ e.platform.maxCells) (h6 : s.slotsUsed + N + N * K ≤ e.platform.maxSlots) {Q : Addr → Pre} (hq : ∀ d' acts', Q s.heap.size d' acts' (gT s cA cI N K N)) : wp (multianewarray.make cA [n, k]) Q E e d acts s := by
  have hnf : ([k].find? (· < 0)) = none := by simp [hk]
  subst hN
  rw [multianewarray.make]
  simp only [wp_bind', W.ite, hn, if_false, wp_pure', W.theClass, hkA, hkdA, Option.some.injEq, exists_eq_left']
  refine W.newArray_of hkA hkdA h1 h2 (by omega) (by have := Nat.zero_le (n.toNatClampNeg * K); omega) (ref_fits _ (Or.inl rfl)) (fun acts' => ?_)
  rw [gC_0 cA n.toNatClampNeg s.heap.size]
  simp only [hnf]
  rw [ite_self, wp_bind', Std.Legacy.Range.forIn_eq_forIn_range']
  have hsz : ([:n.toNatClampNeg] : Std.Legacy.Range).size = n.toNatClampNeg := by simp [Std.Legacy.Range.size]
  rw [hsz]
  show wp (forIn (List.range' 0 n.toNatClampNeg 1) PUnit.unit _) _ E e d acts' _
  refine wp_forIn_inv (fun r t => ∃ i, i ≤ n.toNatClampNeg ∧ r = List.range' i (n.toNatClampNeg - i) ∧ t = gT s cA cI n.toNatClampNeg K i) _ _ ⟨0, Nat.zero_le _, rfl, rfl⟩ ?_ ?_
  · intro x r t d' acts2 Q' hI next
    obtain ⟨i, hi, hr, rfl⟩ := hI
    obtain ⟨u, hu⟩ : ∃ u, n.toNatClampNeg - i = u + 1 := by
      cases h : n.toNatClampNeg - i with
      | zero => rw [h] at hr; cases hr
      | succ u => exact ⟨u, rfl⟩
    rw [hu, List.range'_succ] at hr
    obtain ⟨rfl, rfl⟩ := List.cons.inj hr
    obtain ⟨a1, a2, a3, a4, -, -⟩ := gT_f s cA cI n.toNatClampNeg K x
    have hmul : x * K + K ≤ n.toNatClampNeg * K := by
      have := Nat.mul_le_mul_right K (show x + 1 ≤ n.toNatClampNeg by omega)
      rw [Nat.succ_mul] at this; exact this
    simp only [wp_bind']
    refine wp_row hz (by rw [a3]; exact hkI) hkdI hk hK h3 h4 hdf (by rw [a1]; omega) (by rw [a4]; omega) (fun acts3 => ?_)
    simp only [wp_bind', W.writeLoc, wp_pure']
    refine ⟨gC cA n.toNatClampNeg s.heap.size x, (State.heap_pushCell_of_lt (a := s.heap.size) _ _ (by rw [a1]; exact Nat.lt_of_lt_of_le (Nat.lt_succ_self _) (Nat.le_add_right _ _))).trans a2, by simp [gC, arrV], by rw [show (gC cA n.toNatClampNeg s.heap.size x).slots.size = n.toNatClampNeg from arrV_size _ _ _]; omega, ?_, next _ _ _ ⟨x + 1, by omega, ?_, ?_⟩⟩
    · simp [gC, arrV, State.fitsSlot, State.slotType?, a3, hkA, hkdA, ref_fits _ (Or.inr ⟨_, rfl⟩)]
    · exact congrArg (List.range' (x + 1)) (by omega)
    · rw [gT, a1, gC_s]
  · intro t d' acts2 hI
    obtain ⟨i, hi, hr, rfl⟩ := hI
    have e : i = n.toNatClampNeg := by
      cases h : n.toNatClampNeg - i with
      | zero => omega
      | succ u => rw [h, List.range'_succ] at hr; cases hr
    subst e
    simp only [wp_pure']
    exact hq _ _
end MK
section N2
variable {p : Program} {l : Launch} {e : Env} {s : State} {m : MethodId} {args : Array Value} {below : List Frame} {meth : Method} {c : Code} {H : Heap} {locs : List Loc} {R : Room} {d cells slots : Nat} {Q : State → Prop}
variable {cc : ByteArray} {pc nL : Nat} {ls : Array Slot} {rest : List Value} {D : va_G} {A : Nat → Prop} {cy : Nat → ClassId} {own : String} {ws : va_W}
theorem n_mna (X : Cx p s m args c cc nL own D cy) (hA : ∀ q, s.heap.size ≤ q → A q) (hW : WL D A s.heap ws H locs) {ty : FieldType} {index : Nat} {cI cA : ClassId} (hlink : Cond.classLink own index ("[" ++ (FieldType.array ty).toString) ∈ lw_g) (hover : AOA ty s) (harr : Cond.arrayClass ty ∈ lw_g) (hI : s.vm.findClass (FieldType.array ty).toString = some cI) (hcA : s.vm.findClass ("[" ++ (FieldType.array ty).toString) = some cA) {n k : Int32} (N' K' : Nat) (hn : n = nI N') (hk : k = nI K') (hNK : N' ≤ 100 ∧ K' ≤ 100) (hcb : componentBytes ty ≤ 8) (hz : defaultValue ty = .int 0) (hdf : fits ty (defaultValue ty) = true) (hdd : (defaultValue ty).isDefault = true) (hcells : cells + (1 + N') ≤ R.cells) (hslots : slots + (N' + N' * K') ≤ R.slots) (hdg : decode cc pc = .ok (.multianewarray index 2, 4))
    (kk : ∀ (q : Nat) (H1 : Heap), WL D A s.heap ((ws ++ [(q, .inl (cA, N', .inr (.inr (.inr (.inr (fun i => if i < N' then some (q + 1 + i) else none))))))]) ++ (List.range N').map (fun i => (q + 1 + i, .inl (cI, K', .inl (fun _ => 0))))) H1 locs → W p l e R s m args below meth c H1 locs (cells + 1 + N') (slots + N' + N' * K') Q (F0 m (pc + 4) ls (.ref q :: rest))) : W p l e R s m args below meth c H locs cells slots Q (F0 m pc ls (.int k :: .int n :: rest)) := by
  obtain ⟨hexec, hb, hml, hown, hts, hK, hN⟩ := X
  intro T hT XT
  subst hT
  subst hb
  have en : n.toNatClampNeg = N' := by rw [hn]; exact ixn (by omega)
  have ek : k.toNatClampNeg = K' := by rw [hk]; exact ixn (by omega)
  have nn : ¬ n < 0 := by rw [hn]; exact nI_pos (by omega)
  have nk : ¬ k < 0 := by rw [hk]; exact nI_pos (by omega)
  have hpl : e.platform.magicAccessors = ({} : Platform).magicAccessors := by rw [XT.admits.platform]
  obtain ⟨comp, cA', kA, f1, -, f3, f4, f5⟩ := hover.spec
  obtain ⟨cI', kI, ccI, g1, g2, g3⟩ := Cond.arrayClass_spec (hts _ harr)
  have ec : comp = cI := Option.some.inj (f1.symm.trans hI)
  subst ec
  have ea : cA' = cA := Option.some.inj (f5.symm.trans hcA)
  subst ea
  have eI : cI' = comp := Option.some.inj (g1.symm.trans f1)
  subst eI
  obtain ⟨c0, q1, q2⟩ := Cond.classLink_spec hown (hts _ hlink) e.platform hpl
  have e0 : c0 = cA' := Option.some.inj (q1.symm.trans f5)
  subst e0
  obtain ⟨hg₁, hwarm₁, hready₁⟩ := State.classEntry (e := e) XT.warmed q2
  generalize T.vm.noted m.cls index (.cls c0) = vm₁ at hg₁ hwarm₁ hready₁
  have hal : s.vm.Alike vm₁ := hwarm₁.alike
  obtain ⟨kA₁, hkA₁, heA⟩ := hal.2.2 _ _ f3
  obtain ⟨kI₁, hkI₁, heI⟩ := hal.2.2 _ _ g2
  have hkdA : kA₁.kind = .array cI' (.array ty) := by rw [heA]; exact f4
  have hkdI : kI₁.kind = .array ccI ty := by rw [heI]; exact g3
  have X₁ := XT.noted hwarm₁
  obtain ⟨r1, r2⟩ := XT.roomAbove hcells hslots
  have XF := gT_st X₁ c0 cI' N' K' N'
  obtain ⟨a1, a2, a3, a4, a5, a6⟩ := gT_f (T.setVm vm₁) c0 cI' N' K' N'
  have eh : (T.setVm vm₁).heap = T.heap := rfl
  rw [eh] at a1 a2 a5 a6
  have hold : ∀ (j : Nat) (x : Nat × va_E), ws[j]? = some x → (gT (T.setVm vm₁) c0 cI' N' K' N').heap[x.1]? = T.heap[x.1]? := fun j x hx => a5 x.1 ((hW.1 j x hx).lt)
  have hP1 : va_P D vwCl (ws ++ [(T.heap.size, .inl (c0, N', .inr (.inr (.inr (.inr (fun i => if i < N' then some (T.heap.size + 1 + i) else none))))))]) (gT (T.setVm vm₁) c0 cI' N' K' N').heap := (hW.1.kept hold).app (fun j x hx => by
    have h0 : j < 1 := (List.getElem?_eq_some_iff.mp hx).1
    rw [show j = 0 by omega] at hx
    cases hx
    exact a2)
  have hP2 : va_P D vwCl ((ws ++ [(T.heap.size, .inl (c0, N', .inr (.inr (.inr (.inr (fun i => if i < N' then some (T.heap.size + 1 + i) else none))))))]) ++ (List.range N').map (fun i => (T.heap.size + 1 + i, .inl (cI', K', .inl (fun _ => 0))))) (gT (T.setVm vm₁) c0 cI' N' K' N').heap := hP1.app (fun j x hx => by
    obtain ⟨i, hi, rfl⟩ := List.mem_map.mp (List.mem_of_getElem? hx)
    exact a6 i (List.mem_range.mp hi))
  have hD2 : va_D A ((ws ++ [(T.heap.size, .inl (c0, N', .inr (.inr (.inr (.inr (fun i => if i < N' then some (T.heap.size + 1 + i) else none))))))]) ++ (List.range N').map (fun i => (T.heap.size + 1 + i, .inl (cI', K', .inl (fun _ => 0))))) := by
    have hg : s.heap.size ≤ T.heap.size := hW.2.2.1
    have key : ∀ (j : Nat) (x : Nat × va_E), ((ws ++ [(T.heap.size, .inl (c0, N', .inr (.inr (.inr (.inr (fun i => if i < N' then some (T.heap.size + 1 + i) else none))))))]) ++ (List.range N').map (fun i => (T.heap.size + 1 + i, .inl (cI', K', .inl (fun _ => 0)))))[j]? = some x → (j < ws.length ∧ ws[j]? = some x) ∨ (ws.length ≤ j ∧ x.1 = T.heap.size + (j - ws.length)) := by
      intro j x hx
      by_cases h1 : j < ws.length
      · rw [List.append_assoc, List.getElem?_append_left h1] at hx
        exact Or.inl ⟨h1, hx⟩
      · rw [List.append_assoc, List.getElem?_append_right (by omega)] at hx
        refine Or.inr ⟨by omega, ?_⟩
        cases h2 : j - ws.length with
        | zero =>
          rw [h2] at hx
          cases hx
          rfl
        | succ u =>
          rw [h2] at hx
          have hx2 : ((List.range N').map (fun i => ((T.heap.size + 1 + i, .inl (cI', K', .inl (fun _ => 0))) : Nat × va_E)))[u]? = some x := hx
          rw [List.getElem?_map] at hx2
          by_cases hu : u < N'
          · rw [List.getElem?_range hu] at hx2
            cases hx2
            show T.heap.size + 1 + u = T.heap.size + (u + 1)
            omega
          · rw [List.getElem?_eq_none (by rw [List.length_range]; omega)] at hx2
            cases hx2
    refine ⟨fun i j x y hi hj hxy => ?_, fun j x hx => ?_⟩
    · rcases key i x hi with ⟨u1, u2⟩ | ⟨u1, u2⟩ <;> rcases key j y hj with ⟨v1, v2⟩ | ⟨v1, v2⟩
      · exact hW.2.1.1 i j x y u2 v2 hxy
      · have := (hW.1 i x u2).lt
        omega
      · have := (hW.1 j y v2).lt
        omega
      · omega
    · rcases key j x hx with ⟨u1, u2⟩ | ⟨u1, u2⟩
      · exact hW.2.1.2 j x u2
      · rw [u2]; exact hA _ (by omega)
  have hS2 : va_S A s.heap (gT (T.setVm vm₁) c0 cI' N' K' N').heap locs := ⟨by rw [a1]; have := hW.2.2.1; omega, fun x h1 h2 => (a5 x (Nat.lt_of_lt_of_le h1 hW.2.2.1)).trans (hW.2.2.2.1 x h1 h2), hW.2.2.2.2⟩
  obtain ⟨t, st, hq⟩ := kk T.heap.size (gT (T.setVm vm₁) c0 cI' N' K' N').heap ⟨hP2, hD2, hS2⟩ (gT (T.setVm vm₁) c0 cI' N' K' N') rfl XF
  refine ⟨t, ?_, hq⟩
  have l1 : ¬ N' > e.platform.arrayLengthLimit := by rw [Launch.admits_arrayLengthLimit XT.admits]; omega
  have l2 : ¬ N' * componentBytes (.array ty) > e.platform.maxHeapBytes := by
    rw [Launch.admits_maxHeapBytes XT.admits]; show ¬ N' * 4 > 536870912; omega
  have l3 : ¬ K' > e.platform.arrayLengthLimit := by rw [Launch.admits_arrayLengthLimit XT.admits]; omega
  have l4 : ¬ K' * componentBytes ty > e.platform.maxHeapBytes := by
    rw [Launch.admits_maxHeapBytes XT.admits]
    have := Nat.mul_le_mul hNK.2 hcb
    omega
  jvm_step XT.here [hexec, hdg]
  simp only [multianewarray.sem, wp_bind', W.resolveClassAt_links (State.method?_setTop (F0 m pc ls (.int k :: .int n :: rest)) XT.here.top) hg₁]
  rw [W.popN, if_neg (by decide)]
  refine ⟨F0 m pc ls (.int k :: .int n :: rest), State.topJava?_setTop' (s := T.setVm vm₁) _ XT.here.top, [.int n, .int k], rest, rfl, rfl, ?_⟩
  simp only [List.mapM_cons, List.mapM_nil, wp_bind', wp_pure']
  refine wp_rows (kA := kA₁) (kI := kI₁) hz hkA₁ hkdA hkI₁ hkdI nn nk en ek l1 l2 l3 l4 hdf (by show T.heap.size + 1 + _ ≤ _; omega) (by show T.slotsUsed + _ + _ ≤ _; omega) (fun d' acts' => ?_)
  have eS : ((T.setTop (F0 m pc ls (.int k :: .int n :: rest))).setVm vm₁).setTop (F0 m pc ls rest) = (T.setVm vm₁).setTop (F0 m pc ls rest) := by
    show ((T.setVm vm₁).setTop _).setTop _ = _
    rw [State.setTop_setTop]
  rw [eS, gT_top]
  simp only [wp_bind', W.mark, W.pushRef, State.topJava?_setTop' _ XF.here.top, Option.some.injEq, exists_eq_left', State.setTop_setTop, State.heap_setTop]
  intro acts
  simp [jvm, XF.here.top]
  exact st
theorem q_clI : Cond.classLink RX1 9 ("[" ++ (FieldType.array .int).toString) ∈ lw_g := mem_g (i := 95) (by decide +kernel) (by decide +kernel)
theorem q_clB : Cond.classLink RX1 18 ("[" ++ (FieldType.array .byte).toString) ∈ lw_g := mem_g (i := 97) (by decide +kernel) (by decide +kernel)
theorem n_mnaI (X : Cx p s m args c cc nL RX1 D cy) (hA : ∀ q, s.heap.size ≤ q → A q) (hW : WL D A s.heap ws H locs) (hover : AOA .int s) {n k : Int32} (N' K' : Nat) (hn : n = nI N') (hk : k = nI K') (hNK : N' ≤ 100 ∧ K' ≤ 100) (hcells : cells + (1 + N') ≤ R.cells) (hslots : slots + (N' + N' * K') ≤ R.slots) (hdg : decode cc pc = .ok (.multianewarray 9 2, 4))
    (kk : ∀ (q : Nat) (H1 : Heap), WL D A s.heap ((ws ++ [(q, .inl (cy 3, N', .inr (.inr (.inr (.inr (fun i => if i < N' then some (q + 1 + i) else none))))))]) ++ (List.range N').map (fun i => (q + 1 + i, .inl (cy 0, K', .inl (fun _ => 0))))) H1 locs → W p l e R s m args below meth c H1 locs (cells + 1 + N') (slots + N' + N' * K') Q (F0 m (pc + 4) ls (.ref q :: rest))) : W p l e R s m args below meth c H locs cells slots Q (F0 m pc ls (.int k :: .int n :: rest)) :=
  n_mna (ty := .int) X hA hW q_clI hover q_arrI (X.2.2.2.2.2.1.2 0 _ rfl).2 (X.2.2.2.2.2.1.2 3 _ rfl).2 N' K' hn hk hNK (by decide) rfl rfl rfl hcells hslots hdg kk
theorem n_mnaB (X : Cx p s m args c cc nL RX1 D cy) (hA : ∀ q, s.heap.size ≤ q → A q) (hW : WL D A s.heap ws H locs) (hover : AOA .byte s) {n k : Int32} (N' K' : Nat) (hn : n = nI N') (hk : k = nI K') (hNK : N' ≤ 100 ∧ K' ≤ 100) (hcells : cells + (1 + N') ≤ R.cells) (hslots : slots + (N' + N' * K') ≤ R.slots) (hdg : decode cc pc = .ok (.multianewarray 18 2, 4))
    (kk : ∀ (q : Nat) (H1 : Heap), WL D A s.heap ((ws ++ [(q, .inl (cy 4, N', .inr (.inr (.inr (.inr (fun i => if i < N' then some (q + 1 + i) else none))))))]) ++ (List.range N').map (fun i => (q + 1 + i, .inl (cy 1, K', .inl (fun _ => 0))))) H1 locs → W p l e R s m args below meth c H1 locs (cells + 1 + N') (slots + N' + N' * K') Q (F0 m (pc + 4) ls (.ref q :: rest))) : W p l e R s m args below meth c H locs cells slots Q (F0 m pc ls (.int k :: .int n :: rest)) :=
  n_mna (ty := .byte) X hA hW q_clB hover q_arrB (X.2.2.2.2.2.1.2 1 _ rfl).2 (X.2.2.2.2.2.1.2 4 _ rfl).2 N' K' hn hk hNK (by decide) rfl rfl rfl hcells hslots hdg kk
end N2
