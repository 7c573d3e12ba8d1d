/-! constructors: worlds as lists that grow -/
def AOA (ty : FieldType) (U : State) : Prop := (Cond.arrayOver (.array ty)).before #[] U = true
theorem AOA.of {ty : FieldType} {A : Array Value} {U : State} (h : (Cond.arrayOver (.array ty)).before A U = true) : AOA ty U := h
theorem AOA.use {ty : FieldType} {A : Array Value} {U : State} (h : AOA ty U) : (Cond.arrayOver (.array ty)).before A U = true := h
theorem AOA.spec {ty : FieldType} {U : State} (h : AOA ty U) : ∃ (comp c : ClassId) (k : Class), U.vm.findClass (FieldType.array ty).toString = some comp ∧ (U.vm.classes.findIdx? fun (x : Class) => match x.kind with | .array component _ => component == comp | _ => false) = some c ∧ U.vm.classes[c]? = some k ∧ k.kind = .array comp (.array ty) ∧ U.vm.findClass ("[" ++ (FieldType.array ty).toString) = some c := by
  unfold AOA Cond.before Cond.holds at h
  simp only [Cond.value] at h
  cases h1 : U.vm.findClass (FieldType.array ty).toString with
  | none => rw [h1] at h; simp at h
  | some comp =>
    rw [h1, Option.bind_some] at h
    cases h2 : (U.vm.classes.findIdx? fun (x : Class) => match x.kind with | .array component _ => component == comp | _ => false) with
    | none =>
      have := (congrArg (fun o : Option Nat => (o.bind (fun c => (U.vm.classes[c]?).map fun (k : Class) => match k.kind with | .array _ ty' => decide (ty' = FieldType.array ty) && decide (U.vm.findClass ("[" ++ (FieldType.array ty).toString) = some c) | _ => false) == some true)) h2).symm.trans h
      simp at this
    | some c =>
      have h3 := (congrArg (fun o : Option Nat => (o.bind (fun c => (U.vm.classes[c]?).map fun (k : Class) => match k.kind with | .array _ ty' => decide (ty' = FieldType.array ty) && decide (U.vm.findClass ("[" ++ (FieldType.array ty).toString) = some c) | _ => false) == some true)) h2).symm.trans h
      simp only [Option.bind_some] at h3
      cases h4 : U.vm.classes[c]? with
      | none => rw [h4] at h3; simp at h3
      | some k =>
        rw [h4] at h3
        have h5 := Array.findIdx?_eq_some_iff_getElem.mp h2
        obtain ⟨hlt, hp, -⟩ := h5
        have hk : U.vm.classes[c] = k := by
          have := Array.getElem?_eq_getElem hlt
          rw [h4] at this
          exact (Option.some.inj this).symm
        rw [hk] at hp
        cases hkk : k.kind with
        | array component t2 =>
          rw [hkk] at hp
          simp only [hkk, Option.map_some] at h3
          have e1 : component = comp := by simpa using hp
          have e2 : t2 = FieldType.array ty ∧ U.vm.findClass ("[" ++ (FieldType.array ty).toString) = some c := by simpa using h3
          exact ⟨comp, c, k, rfl, h2, h4, by rw [hkk, e1, e2.1], e2.2⟩
        | _ => simp [hkk] at hp
theorem AOA.moved {ty : FieldType} {u U : State} (hvm : u.vm.Alike U.vm) (h : AOA ty u) : AOA ty U := by
  obtain ⟨comp, c, k, h1, h2, h3, h4, h5⟩ := h.spec
  obtain ⟨k', hk', he⟩ := hvm.2.2 _ _ h3
  have hi : (U.vm.classes.findIdx? fun (x : Class) => match x.kind with | .array component _ => component == comp | _ => false) = some c := by
    have a1 := va_idx_bare U.vm comp
    have a2 := va_idx_bare u.vm comp
    first | rw [hvm.bare_eq] at a1 | rw [← hvm.bare_eq] at a1
    exact a1.symm.trans (a2.trans h2)
  have hkind : k'.kind = .array comp (.array ty) := by rw [he]; exact h4
  have f1 : U.vm.findClass (FieldType.array ty).toString = some comp := by rw [hvm.findClass]; exact h1
  have f2 : U.vm.findClass ("[" ++ (FieldType.array ty).toString) = some c := by rw [hvm.findClass]; exact h5
  unfold AOA Cond.before Cond.holds
  simp only [Cond.value]
  rw [f1, Option.bind_some]
  refine (congrArg (fun o : Option Nat => (o.bind (fun c => (U.vm.classes[c]?).map fun (k : Class) => match k.kind with | .array _ ty' => decide (ty' = FieldType.array ty) && decide (U.vm.findClass ("[" ++ (FieldType.array ty).toString) = some c) | _ => false) == some true)) hi).trans ?_
  simp [hk', hkind, f2]
def WL (D : va_G) (A : Nat → Prop) (H0 : Heap) (ws : va_W) (H : Heap) (locs : List Loc) : Prop := va_P D vwCl ws H ∧ va_D A ws ∧ va_S A H0 H locs
def PreI (D : va_G) (cy : Nat → ClassId) (ws : va_W) (sz : Nat) (U : State) : Prop := U.heap.size = sz ∧ va_P D vwCl ws U.heap ∧ va_K D vwCl (tyL cy) U ∧ va_D (fun _ => True) ws ∧ NW U ∧ AOA .int U ∧ AOA .byte U
def rmI (d c s : Nat) : Room := { frames := d, cells := c, slots := s, locals := 40 * d }
def MetI (l : Launch) (D : va_G) (cy : Nat → ClassId) (y : MethodName) (bytes : ByteArray) (maxL d mc ms : Nat) (av : List Value) (ws : va_W) (Qc : (Nat → Prop) → Array Value → State → Outcome → State → Prop) : Prop :=
  ∀ sz : Nat, Met l y (cds y bytes maxL none) (rmI d mc ms) (va_Pc av (PreI D cy ws sz)) (Qc (va_A ws sz)) mc ms (va_A ws sz)
theorem MetI.of {l : Launch} {D : va_G} {cy : Nat → ClassId} {y : MethodName} {bytes : ByteArray} {maxL d mc ms : Nat} {av : List Value} {ws : va_W} {Qc : (Nat → Prop) → Array Value → State → Outcome → State → Prop} {own : String}
    (hy : plainName y.cls = true) (ho : y.cls = own) (hi : y.name = "<init>") (hlen : (lg_sl av).length ≤ maxL)
    (body : ∀ (p : Program) (e : Env) (s : State) (m : MethodId) (below : List Frame) (meth : Method) (c : Code) (A : Nat → Prop) (Q : State → Prop) (ls : Array Slot), Cx p s m av.toArray c bytes maxL own D cy → meth.sig.returnType = none → meth.locks = false → meth.name = "<init>" → AOA .int s → AOA .byte s → (∀ q, s.heap.size ≤ q → A q) → Q = MQ below (Qc A) av.toArray s mc ms A → WL D A s.heap ws s.heap [] → lv_has ls maxL (lv_args 0 av) → W p l e (rmI d mc ms) s m av.toArray below meth c s.heap [] 0 0 Q (F0 m 0 ls [])) : MetI l D cy y bytes maxL d mc ms av ws Qc := by
  intro sz
  refine Met.ofW (cc := bytes) (maxL := maxL) (ret := none) hy rfl ?_
  intro p e s m args below meth c s₁ B hml hv
  obtain ⟨rfl, hsz, hP, hK, hD0, hN, hO1, hO2⟩ := hv
  have hts := atoms_spec (ws := cds y bytes maxL none) B.pre
  have hown : s.vm.findClass own = some m.cls := by rw [← ho]; exact findClass_of_methodNamed B.named
  have hin : meth.name = "<init>" := ((name_of_methodNamed B.named B.method).1).trans hi
  subst hsz
  have hD := hD0.self (sz := s.heap.size)
  have hl := lv_entry av (n := maxL) hlen
  rw [lg_entry_eq]
  exact body p e s m below meth c _ _ _ ⟨B.exec, B.bytes, hml, hown, fun w hw => hts w (List.mem_cons_of_mem _ hw), hK, hN⟩ B.returns B.notSynchronized hin hO1 hO2 (fun q h => Or.inr h) rfl ⟨hP, hD, va_S.rf⟩ hl
theorem PreI.calls {D : va_G} {cy : Nat → ClassId} {ws : va_W} {sz : Nat} {U : State} {g : JFrame} {mk : MethodId} {av : List Value} (a : Array Value) (h : va_Pc av (PreI D cy ws sz) a U) : va_Pc av (PreI D cy ws sz) a (U.calling g mk a) := by
  obtain ⟨h0, h1, h2, h3, h4, h5, h6, h7⟩ := h
  exact ⟨h0, h1, h2, va_K.moved (u := U) (U := U.calling g mk a) (Vm.Alike.refl U.vm) h3, h4, NW.same (s := U) (U := U.calling g mk a) rfl h5, h6.moved (Vm.Alike.refl U.vm), h7.moved (Vm.Alike.refl U.vm)⟩
theorem q_arrI : Cond.arrayClass .int ∈ lw_g := mem_g (i := 136) (by decide +kernel) (by decide +kernel)
theorem q_arrB : Cond.arrayClass .byte ∈ lw_g := mem_g (i := 137) (by decide +kernel) (by decide +kernel)
theorem q_arrZ : Cond.arrayClass .boolean ∈ lw_g := mem_g (i := 673) (by decide +kernel) (by decide +kernel)
theorem q_ob1 : Cond.methodLink RX1 1 Lib.objectInit ∈ lw_g := mem_g (i := 92) (by decide +kernel) (by decide +kernel)
theorem q_ob0 : Cond.methodLink RX0 3 Lib.objectInit ∈ lw_g := mem_g (i := 104) (by decide +kernel) (by decide +kernel)
theorem q_ob2 : Cond.methodLink RX2 1 Lib.objectInit ∈ lw_g := mem_g (i := 593) (by decide +kernel) (by decide +kernel)
theorem q_obI : Cond.instanceMethod Lib.objectInit ∈ lw_g := mem_g (i := 93) (by decide +kernel) (by decide +kernel)
theorem q_obC : Cond.code Lib.objectInit ⟨#[0xb1]⟩ 1 none ∈ lw_g := mem_g (i := 94) (by decide +kernel) (by decide +kernel)
section N1
variable {p : Program} {l : Launch} {e : Env} {s : State} {m : MethodId} {args : Array Value} {below : List Frame} {meth : Method} {c : Code} {H : Heap} {locs : List Loc} {R : Room} {d cells slots : Nat} {Q : State → Prop}
variable {cc : ByteArray} {pc nL : Nat} {ls : Array Slot} {rest : List Value} {D : va_G} {A : Nat → Prop} {cy : Nat → ClassId} {own : String} {ws : va_W}
theorem n_obj (X : Cx p s m args c cc nL own D cy) (hl : ls.size = nL) {idx a : Nat} (hlink : Cond.methodLink own idx Lib.objectInit ∈ lw_g) (hdg : decode cc pc = .ok (.invokespecial idx, 3)) (hf : 1 ≤ R.frames) (hlo : 12 ≤ R.locals) (hrs : rest = [])
    (kk : W p l e R s m args below meth c H locs cells slots Q (F0 m (pc + 3) ls rest)) : W p l e R s m args below meth c H locs cells slots Q (F0 m pc ls (.ref a :: rest)) := by
  subst hrs
  exact W.objInit X.1 X.2.1 X.2.2.2.1 (X.2.2.2.2.1 _ hlink) (X.2.2.2.2.1 _ q_obI) (X.2.2.2.2.1 _ q_obC) rfl (by rw [X.2.2.1]; exact hl) rfl hdg hf (by simpa using hlo) kk
theorem n_newi (X : Cx p s m args c cc nL own D cy) (hA : ∀ q, s.heap.size ≤ q → A q) (hW : WL D A s.heap ws H locs) {v : Int32} (n : Nat) (hv : v = nI n) (hn : n ≤ 5000) (hcells : cells + 1 ≤ R.cells) (hslots : slots + n ≤ R.slots) (hdg : decode cc pc = .ok (.newarray .int, 2))
    (kk : ∀ (q : Nat) (H1 : Heap), WL D A s.heap (ws ++ [(q, .inl (cy 0, n, .inl (fun _ => 0)))]) H1 locs → W p l e R s m args below meth c H1 locs (cells + 1) (slots + n) Q (F0 m (pc + 2) ls (.ref q :: rest))) : W p l e R s m args below meth c H locs cells slots Q (F0 m pc ls (.int v :: rest)) :=
  va_newa (atype := .int) (ty := .int) (a0 := (n, .inl (fun _ => 0))) X.1 X.2.1 (X.2.2.2.2.1 _ q_arrI) rfl X.2.2.2.2.2.1 hW.1 hW.2.1 hW.2.2 hA (fun _ => rfl) (by rw [hv]; exact nI_pos (by omega)) (by rw [hv]; exact ixn (by omega)) (by show n * 4 ≤ _; omega) hcells hslots hdg (fun q cA H1 hK h1 h2 h3 => by
    have e1 : s.vm.findClass ("[" ++ FieldType.int.toString) = some cA := (hK.2 5 _ rfl).2
    have e2 : s.vm.findClass ("[" ++ FieldType.int.toString) = some (cy 0) := (X.2.2.2.2.2.1.2 0 _ rfl).2
    have e3 : cA = cy 0 := Option.some.inj (e1.symm.trans e2)
    rw [e3] at h1 h2
    exact kk q H1 ⟨h1, h2, h3⟩)
theorem n_newz (X : Cx p s m args c cc nL own D cy) (hA : ∀ q, s.heap.size ≤ q → A q) (hW : WL D A s.heap ws H locs) {v : Int32} (n : Nat) (hv : v = nI n) (hn : n ≤ 5000) (hcells : cells + 1 ≤ R.cells) (hslots : slots + n ≤ R.slots) (hdg : decode cc pc = .ok (.newarray .boolean, 2))
    (kk : ∀ (q : Nat) (H1 : Heap), WL D A s.heap (ws ++ [(q, .inl (cy 2, n, .inl (fun _ => 0)))]) H1 locs → W p l e R s m args below meth c H1 locs (cells + 1) (slots + n) Q (F0 m (pc + 2) ls (.ref q :: rest))) : W p l e R s m args below meth c H locs cells slots Q (F0 m pc ls (.int v :: rest)) :=
  va_newa (atype := .boolean) (ty := .boolean) (a0 := (n, .inl (fun _ => 0))) X.1 X.2.1 (X.2.2.2.2.1 _ q_arrZ) rfl X.2.2.2.2.2.1 hW.1 hW.2.1 hW.2.2 hA (fun _ => rfl) (by rw [hv]; exact nI_pos (by omega)) (by rw [hv]; exact ixn (by omega)) (by show n * 1 ≤ _; omega) hcells hslots hdg (fun q cA H1 hK h1 h2 h3 => by
    have e1 : s.vm.findClass ("[" ++ FieldType.boolean.toString) = some cA := (hK.2 5 _ rfl).2
    have e2 : s.vm.findClass ("[" ++ FieldType.boolean.toString) = some (cy 2) := (X.2.2.2.2.2.1.2 2 _ rfl).2
    have e3 : cA = cy 2 := Option.some.inj (e1.symm.trans e2)
    rw [e3] at h1 h2
    exact kk q H1 ⟨h1, h2, h3⟩)
theorem n_iast (X : Cx p s m args c cc nL own D cy) (hW : WL D A s.heap ws H locs) (k : Nat) {n a : Nat} {f : Nat → Int32} (he : ws[k]? = some (a, .inl (cy 0, n, .inl f))) {i x : Int32} (hin : inb i n = true) (hdg : decode cc pc = .ok (.iastore, 1))
    (kk : ∀ (H1 : Heap) (locs1 : List Loc), WL D A s.heap (ws.set k (a, .inl (cy 0, n, .inl (upd f (ix i) x)))) H1 locs1 → W p l e R s m args below meth c H1 locs1 cells slots Q (F0 m (pc + 1) ls rest)) : W p l e R s m args below meth c H locs cells slots Q (F0 m pc ls (.int x :: .int i :: .ref a :: rest)) :=
  va_iast X.1 X.2.1 X.2.2.2.2.2.1 hW.1 hW.2.1 hW.2.2 k 0 he rfl (inb_in hin) hdg (fun H1 locs1 h1 h2 h3 => kk H1 locs1 ⟨h1, h2, h3⟩)
theorem n_putF (X : Cx p s m args c cc nL own D cy) (hi : meth.name = "<init>") (hW : WL D A s.heap ws H locs) (q0 : Nat) {a ci : Nat} {fs : List Value} (he : ws[q0]? = some (a, .inr (ci, fs))) {T : u_T} {Nn index : Nat} (hcl : vwCl[ci]? = some (own, T, Nn)) (hin : ∀ w ∈ u_ws own T Nn, w ∈ lw_g) (ty0 : Nat → FieldType) (hty : ∀ k, k < Nn → parseFieldDescriptor (T k).2.2.1 = some (ty0 k)) (hnm : ∀ a, a < Nn → ∀ b, b < Nn → a ≠ b → (T a).2.1 ≠ (T b).2.1) (j : Nat) (hj : j < Nn) (hlink : Cond.fieldLink own index (T j).1 (T j).2.1 (T j).2.2.1 ∈ lw_g) (hfin : (T j).2.2.2 = true) (hdecl : (T j).1 = own) {ty : FieldType} {v : Value} (hd : parseFieldDescriptor (T j).2.2.1 = some ty) (hn : narrow ty v = v) (hfit : fits ty v = true) (hl : j < fs.length) (hdg : decode cc pc = .ok (.putfield index, 3))
    (kk : ∀ (H1 : Heap) (locs1 : List Loc), WL D A s.heap (ws.set q0 (a, .inr (ci, fs.set j v))) H1 locs1 → W p l e R s m args below meth c H1 locs1 cells slots Q (F0 m (pc + 3) ls rest)) : W p l e R s m args below meth c H locs cells slots Q (F0 m pc ls (v :: .ref a :: rest)) :=
  va_putF X.1 X.2.1 X.2.2.2.2.1 hin ty0 hty hnm X.2.2.2.1 X.2.2.2.2.2.1 hW.1 hW.2.1 hW.2.2 q0 he hcl j hj (X.2.2.2.2.1 _ hlink) (fun _ h9 => h9) hfin hi hdecl hd hn hfit hl hdg (fun H1 locs1 h1 h2 h3 => kk H1 locs1 ⟨h1, h2, h3⟩)
theorem n_put (X : Cx p s m args c cc nL own D cy) (hW : WL D A s.heap ws H locs) (q0 : Nat) {a ci : Nat} {fs : List Value} (he : ws[q0]? = some (a, .inr (ci, fs))) {T : u_T} {Nn index : Nat} (hcl : vwCl[ci]? = some (own, T, Nn)) (hin : ∀ w ∈ u_ws own T Nn, w ∈ lw_g) (ty0 : Nat → FieldType) (hty : ∀ k, k < Nn → parseFieldDescriptor (T k).2.2.1 = some (ty0 k)) (hnm : ∀ a, a < Nn → ∀ b, b < Nn → a ≠ b → (T a).2.1 ≠ (T b).2.1) (j : Nat) (hj : j < Nn) (hlink : Cond.fieldLink own index (T j).1 (T j).2.1 (T j).2.2.1 ∈ lw_g) (hfin : (T j).2.2.2 = false) {ty : FieldType} {v : Value} (hd : parseFieldDescriptor (T j).2.2.1 = some ty) (hn : narrow ty v = v) (hfit : fits ty v = true) (hl : j < fs.length) (hdg : decode cc pc = .ok (.putfield index, 3))
    (kk : ∀ (H1 : Heap) (locs1 : List Loc), WL D A s.heap (ws.set q0 (a, .inr (ci, fs.set j v))) H1 locs1 → W p l e R s m args below meth c H1 locs1 cells slots Q (F0 m (pc + 3) ls rest)) : W p l e R s m args below meth c H locs cells slots Q (F0 m pc ls (v :: .ref a :: rest)) :=
  va_put X.1 X.2.1 X.2.2.2.2.1 hin ty0 hty hnm X.2.2.2.1 X.2.2.2.2.2.1 hW.1 hW.2.1 hW.2.2 q0 he hcl j hj (X.2.2.2.2.1 _ hlink) (fun _ h9 => h9) hfin hd hn hfit hl hdg (fun H1 locs1 h1 h2 h3 => kk H1 locs1 ⟨h1, h2, h3⟩)
theorem n_get (X : Cx p s m args c cc nL own D cy) (hW : WL D A s.heap ws H locs) (q0 : Nat) {a ci : Nat} {fs : List Value} (he : ws[q0]? = some (a, .inr (ci, fs))) {T : u_T} {Nn index : Nat} (hcl : vwCl[ci]? = some (own, T, Nn)) (hin : ∀ w ∈ u_ws own T Nn, w ∈ lw_g) (j : Nat) (hj : j < Nn) (hlink : Cond.fieldLink own index (T j).1 (T j).2.1 (T j).2.2.1 ∈ lw_g) {v : Value} (hv : fs[j]? = some v) (hdg : decode cc pc = .ok (.getfield index, 3))
    (kk : W p l e R s m args below meth c H locs cells slots Q (F0 m (pc + 3) ls (v :: rest))) : W p l e R s m args below meth c H locs cells slots Q (F0 m pc ls (.ref a :: rest)) :=
  va_get X.1 X.2.1 X.2.2.2.2.1 hin X.2.2.2.1 X.2.2.2.2.2.1 hW.1 q0 he hcl j hj (X.2.2.2.2.1 _ hlink) (fun _ h9 => h9) hv hdg kk
end N1
