/-! the words of nest mates: they are kept beside the tables' words -/
def nestF : List (String × Nat × String × String × String × String) := [("TubeWords", 243, "TubeWords$Store", "kind", "[I", "TubeWords"), ("TubeWords", 141, "TubeWords$Store", "length", "[I", "TubeWords"), ("TubeWords", 144, "TubeWords$Store", "word", "[I", "TubeWords"), ("TubeWords", 147, "TubeWords$Store", "way", "[I", "TubeWords"), ("TubeWords", 108, "TubeWords$Store", "size", "I", "TubeWords"), ("TubeWords", 127, "TubeWords$Store", "time", "I", "TubeWords"), ("TubeWords$Store", 45, "TubeWords", "LETTERS", "[B", "TubeWords")]
def nestM : List (String × Nat × MethodName × String) := [("TubeWords", 28, ⟨"TubeWords$Store", "<init>", "()V"⟩, "TubeWords"), ("TubeWords", 97, ⟨"TubeWords$Store", "read", "([BI)I"⟩, "TubeWords"), ("TubeWords", 101, ⟨"TubeWords$Store", "beginAnew", "()V"⟩, "TubeWords"), ("TubeWords", 104, ⟨"TubeWords$Store", "takeFrom", "(LTubeWords$Store;)V"⟩, "TubeWords"), ("TubeWords", 111, ⟨"TubeWords$Store", "has", "(I)Z"⟩, "TubeWords"), ("TubeWords", 117, ⟨"TubeWords$Store", "fact", "(II)I"⟩, "TubeWords"), ("TubeWords", 120, ⟨"TubeWords$Store", "isOf", "(II)Z"⟩, "TubeWords"), ("TubeWords", 124, ⟨"TubeWords$Store", "tells", "(II)I"⟩, "TubeWords"), ("TubeWords", 234, ⟨"TubeWords$Store", "letPass", "()V"⟩, "TubeWords"), ("TubeWords", 237, ⟨"TubeWords$Store", "turnSlot", "(II)V"⟩, "TubeWords"), ("TubeWords", 186, ⟨"TubeWords$Store", "swapWays", "(II)V"⟩, "TubeWords"), ("TubeWords", 240, ⟨"TubeWords$Store", "putWord", "(II)V"⟩, "TubeWords"), ("TubeWords", 137, ⟨"TubeWords$Store", "pulses", "()I"⟩, "TubeWords"), ("TubeWords", 150, ⟨"TubeWords$Store", "canHave", "(II)Z"⟩, "TubeWords"), ("TubeWords", 159, ⟨"TubeWords$Store", "goOn", "(I)V"⟩, "TubeWords"), ("TubeWords", 163, ⟨"TubeWords$Store", "isReady", "(I)Z"⟩, "TubeWords"), ("TubeWords", 166, ⟨"TubeWords$Store", "comesOut", "(I)I"⟩, "TubeWords"), ("TubeWords", 174, ⟨"TubeWords$Store", "hasWordsOf", "(LTubeWords$Store;)Z"⟩, "TubeWords"), ("TubeWords", 178, ⟨"TubeWords$Store", "emptyOnes", "()I"⟩, "TubeWords"), ("TubeWords", 207, ⟨"TubeWords$Store", "ends", "()I"⟩, "TubeWords"), ("TubeWords", 252, ⟨"TubeWords$Store", "putEnds", "(I)V"⟩, "TubeWords"), ("TubeWords", 268, ⟨"TubeWords$Store", "empty", "(I)V"⟩, "TubeWords"), ("TubeWords", 271, ⟨"TubeWords$Store", "slots", "()I"⟩, "TubeWords"), ("TubeWords", 278, ⟨"TubeWords$Store", "manyOf", "(I)I"⟩, "TubeWords")]
def NW (U : State) : Prop := (∀ q ∈ nestF, va_Nw (.fieldLinkNest q.1 q.2.1 q.2.2.1 q.2.2.2.1 q.2.2.2.2.1 q.2.2.2.2.2) U) ∧ ∀ q ∈ nestM, va_Nw (.methodLinkNest q.1 q.2.1 q.2.2.1 q.2.2.2) U
theorem NW.warm {s U : State} (hW : s.WarmedH U.vm) (h : NW s) : NW U := ⟨fun q hq => va_Nw.warmF hW (h.1 q hq), fun q hq => va_Nw.warmM hW (h.2 q hq)⟩
theorem NW.same {s U : State} (hv : s.vm = U.vm) (h : NW s) : NW U := ⟨fun q hq => va_Nw.same rfl hv (h.1 q hq), fun q hq => va_Nw.same rfl hv (h.2 q hq)⟩
/-! the static row of letters -/
def SZ (A : Nat → Prop) (U : State) (H : Heap) : Prop := ∃ t : Nat, va_Z RX1 "LETTERS" "[B" (.ref t) A U H ∧ va_T .byte t 6 (fun j => .int (lett j)) A U H
theorem SZ.sub {A B : Nat → Prop} {s U : State} {H0 H : Heap} (h : SZ A s H0) (hvm : s.vm.Alike U.vm) (hAB : ∀ q, B q → A q) (hk : ∀ a : Nat, a < H0.size → ¬ A a → H[a]? = H0[a]?) : SZ B U H := by
  obtain ⟨t, h1, h2⟩ := h
  exact ⟨t, ((h1.kept hk).narrow hAB).moved hvm, ((h2.kept hk).narrow hAB).moved hvm⟩
/-! a method's frame, and the world at a memory -/
def Cx (p : Program) (s : State) (m : MethodId) (args : Array Value) (c : Code) (cc : ByteArray) (nL : Nat) (own : String) (D : va_G) (cy : Nat → ClassId) : Prop := p.tables.exec = Jvm.exec ∧ c.code = cc ∧ c.maxLocals = nL ∧ s.vm.findClass own = some m.cls ∧ (∀ w ∈ lw_g, w.before args s = true) ∧ va_K D vwCl (tyL cy) s ∧ NW s
def Wd (D : va_G) (N : Nat) (ad : Nat → Nat) (C : CF) (A : Nat → Prop) (H0 : Heap) (M : Mem) (H : Heap) (locs : List Loc) : Prop := va_P D vwCl (WS N ad C M) H ∧ va_D A (WS N ad C M) ∧ va_S A H0 H locs
def PreW (N : Nat) (C : CF) (D : va_G) (cy : Nat → ClassId) (ad : Nat → Nat) (sz : Nat) (M : Mem) (U : State) : Prop := U.heap.size = sz ∧ va_P D vwCl (WS N ad C M) U.heap ∧ va_K D vwCl (tyL cy) U ∧ va_D (fun _ => True) (WS N ad C M) ∧ NW U ∧ SZ (va_A (WS N ad C M) sz) U U.heap
def AtW (N : Nat) (C : CF) (D : va_G) (cy : Nat → ClassId) (ad : Nat → Nat) (A : Nat → Prop) (M : Mem) (t : State) : Prop := va_P D vwCl (WS N ad C M) t.heap ∧ va_K D vwCl (tyL cy) t ∧ va_D A (WS N ad C M)
abbrev QI (r : Int32) (M' : Mem) (N : Nat) (C : CF) (D : va_G) (cy : Nat → ClassId) (ad : Nat → Nat) (A : Nat → Prop) : Array Value → State → Outcome → State → Prop := va_Qi (fun (r' : Int32) (M'' : Mem) => r' = r ∧ M'' = M') (AtW N C D cy ad A) A
abbrev QL (r : Int64) (M' : Mem) (N : Nat) (C : CF) (D : va_G) (cy : Nat → ClassId) (ad : Nat → Nat) (A : Nat → Prop) : Array Value → State → Outcome → State → Prop := va_Ql (fun (r' : Int64) (M'' : Mem) => r' = r ∧ M'' = M') (AtW N C D cy ad A) A
abbrev QV (M' : Mem) (N : Nat) (C : CF) (D : va_G) (cy : Nat → ClassId) (ad : Nat → Nat) (A : Nat → Prop) : Array Value → State → Outcome → State → Prop := va_Qv (fun (M'' : Mem) => M'' = M') (AtW N C D cy ad A) A
def MetX (l : Launch) (N : Nat) (C : CF) (D : va_G) (cy : Nat → ClassId) (ad : Nat → Nat) (y : MethodName) (bytes : ByteArray) (maxL : Nat) (ret : Option FieldType) (d : Nat) (av : List Value) (M : Mem) (Qc : (Nat → Prop) → Array Value → State → Outcome → State → Prop) : Prop :=
  ∀ sz : Nat, Met l y (cds y bytes maxL ret) (rmD d) (va_Pc av (PreW N C D cy ad sz M)) (Qc (va_A (WS N ad C M) sz)) 0 0 (va_A (WS N ad C M) sz)
theorem MetX.of {l : Launch} {N : Nat} {C : CF} {D : va_G} {cy : Nat → ClassId} {ad : Nat → Nat} {y : MethodName} {bytes : ByteArray} {maxL : Nat} {ret : Option FieldType} {d : Nat} {av : List Value} {M : Mem} {Qc : (Nat → Prop) → Array Value → State → Outcome → State → Prop} {own : String}
    (hy : plainName y.cls = true) (ho : y.cls = own) (hlen : (lg_sl av).length ≤ maxL)
    (body : ∀ (p : Program) (e : Env) (s : State) (m : MethodId) (below : List Frame) (meth : Method) (c : Code) (A : Nat → Prop) (Q : State → Prop) (ls : Array Slot), Cx p s m av.toArray c bytes maxL own D cy → meth.sig.returnType = ret → meth.locks = false → SZ A s s.heap → (∀ q, s.heap.size ≤ q → A q) → Q = MQ below (Qc A) av.toArray s 0 0 A → Wd D N ad C A s.heap M s.heap [] → lv_has ls maxL (lv_args 0 av) → W p l e (rmD d) s m av.toArray below meth c s.heap [] 0 0 Q (F0 m 0 ls [])) : MetX l N C D cy ad y bytes maxL ret d av M Qc := by
  intro sz
  refine Met.ofW (cc := bytes) (maxL := maxL) (ret := ret) hy rfl ?_
  intro p e s m args below meth c s₁ B hml hv
  obtain ⟨rfl, hsz, hP, hK, hD0, hN, hZ⟩ := hv
  have hts := atoms_spec (ws := cds y bytes maxL ret) B.pre
  have hown : s.vm.findClass own = some m.cls := by rw [← ho]; exact findClass_of_methodNamed B.named
  subst hsz
  have hD := hD0.self (sz := s.heap.size)
  have hl := lv_entry av (n := maxL) hlen
  rw [lg_entry_eq]
  exact body p e s m below meth c _ _ _ ⟨B.exec, B.bytes, hml, hown, fun w hw => hts w (List.mem_cons_of_mem _ hw), hK, hN⟩ B.returns B.notSynchronized hZ (fun q h => Or.inr h) rfl ⟨hP, hD, va_S.rf⟩ hl
section G1
variable {p : Program} {l : Launch} {e : Env} {s : State} {m : MethodId} {args : Array Value} {below : List Frame} {meth : Method} {c : Code} {H : Heap} {locs : List Loc} {R : Room} {d : Nat} {Q : State → Prop}
variable {cc : ByteArray} {pc nL : Nat} {ls : Array Slot} {rest : List Value} {D : va_G} {A : Nat → Prop} {cy : Nat → ClassId} {own : String} {N : Nat} {ad : Nat → Nat} {C : CF} {M M' : Mem}
theorem g_iret (X : Cx p s m args c cc nL own D cy) (hr : meth.sig.returnType = some .int) (hlk : meth.locks = false) {v r : Int32} (hQ : Q = MQ below (QI r M' N C D cy ad A) args s 0 0 A) (hW : Wd D N ad C A s.heap M H locs) (hdg : decode cc pc = .ok (.ireturn, 1)) (hf : (some (v, M) : Option (Int32 × Mem)) = some (r, M')) : W p l e R s m args below meth c H locs 0 0 Q (F0 m pc ls [.int v]) := by
  cases hf
  rw [hQ]
  exact W.iret X.1 X.2.1 hr (fun t ht hw => ⟨⟨v, M, rfl, ⟨rfl, rfl⟩, by rw [ht]; exact hW.1, va_K.moved hw.alike X.2.2.2.2.2.1, hW.2.1⟩, hW.2.2.F ht⟩) hW.2.2.2.2 hdg hlk
theorem g_zret (X : Cx p s m args c cc nL own D cy) (hr : meth.sig.returnType = some .boolean) (hlk : meth.locks = false) {v r : Int32} (hQ : Q = MQ below (QI r M' N C D cy ad A) args s 0 0 A) (hW : Wd D N ad C A s.heap M H locs) (hdg : decode cc pc = .ok (.ireturn, 1)) (hn : isB v = true) (hf : (some (v, M) : Option (Int32 × Mem)) = some (r, M')) : W p l e R s m args below meth c H locs 0 0 Q (F0 m pc ls [.int v]) := by
  cases hf
  rw [hQ]
  exact W.zret X.1 X.2.1 hr (isB_nar hn) (fun t ht hw => ⟨⟨v, M, rfl, ⟨rfl, rfl⟩, by rw [ht]; exact hW.1, va_K.moved hw.alike X.2.2.2.2.2.1, hW.2.1⟩, hW.2.2.F ht⟩) hW.2.2.2.2 hdg hlk
theorem g_lret (X : Cx p s m args c cc nL own D cy) (hr : meth.sig.returnType = some .long) (hlk : meth.locks = false) {v r : Int64} (hQ : Q = MQ below (QL r M' N C D cy ad A) args s 0 0 A) (hW : Wd D N ad C A s.heap M H locs) (hdg : decode cc pc = .ok (.lreturn, 1)) (hf : (some (v, M) : Option (Int64 × Mem)) = some (r, M')) : W p l e R s m args below meth c H locs 0 0 Q (F0 m pc ls [.long v]) := by
  cases hf
  rw [hQ]
  exact W.lret X.1 X.2.1 hr (fun t ht hw => ⟨⟨v, M, rfl, ⟨rfl, rfl⟩, by rw [ht]; exact hW.1, va_K.moved hw.alike X.2.2.2.2.2.1, hW.2.1⟩, hW.2.2.F ht⟩) hW.2.2.2.2 hdg hlk
theorem g_vret (X : Cx p s m args c cc nL own D cy) (hr : meth.sig.returnType = none) (hlk : meth.locks = false) (hQ : Q = MQ below (QV M' N C D cy ad A) args s 0 0 A) (hW : Wd D N ad C A s.heap M H locs) (hdg : decode cc pc = .ok (.return_, 1)) (hf : (some M : Option Mem) = some M') : W p l e R s m args below meth c H locs 0 0 Q (F0 m pc ls []) := by
  cases hf
  rw [hQ]
  exact W.vret X.1 X.2.1 hr (fun t ht hw => ⟨⟨M, rfl, rfl, by rw [ht]; exact hW.1, va_K.moved hw.alike X.2.2.2.2.2.1, hW.2.1⟩, hW.2.2.F ht⟩) hW.2.2.2.2 hdg hlk
theorem rd_some {α : Type} {v r : α} {M : Mem} (h : some v = some r) : (some (v, M) : Option (α × Mem)) = some (r, M) := by cases h; rfl
/-! arrays -/
def isA (C : CF) (N k : Nat) (cA : ClassId) (n : Nat) : Prop := k < N ∧ ∀ (fi : Nat → Int32) (fl : Nat → Int64), C k fi fl = .inl (cA, n, .inl fi)
theorem isA.get {k n : Nat} {cA : ClassId} (h : isA C N k cA n) : (WS N ad C M)[k]? = some (ad k, .inl (cA, n, .inl (M.1 k))) := by rw [WS_get h.1, h.2]
theorem g_iald (X : Cx p s m args c cc nL own D cy) (hW : Wd D N ad C A s.heap M H locs) {k n : Nat} (hk : isA C N k (cy 0) n) {i : Int32} (hin : inb i n = true) (hdg : decode cc pc = .ok (.iaload, 1))
    (kk : W p l e R s m args below meth c H locs 0 0 Q (F0 m (pc + 1) ls (.int (M.1 k (ix i)) :: rest))) : W p l e R s m args below meth c H locs 0 0 Q (F0 m pc ls (.int i :: .ref (ad k) :: rest)) :=
  va_iald X.1 X.2.1 X.2.2.2.2.2.1 hW.1 k 0 hk.get rfl (inb_in hin) hdg kk
theorem g_bald (X : Cx p s m args c cc nL own D cy) (hW : Wd D N ad C A s.heap M H locs) {k n : Nat} (hk : isA C N k (cy 1) n) {i : Int32} (hin : inb i n = true) (hdg : decode cc pc = .ok (.baload, 1))
    (kk : W p l e R s m args below meth c H locs 0 0 Q (F0 m (pc + 1) ls (.int (M.1 k (ix i)) :: rest))) : W p l e R s m args below meth c H locs 0 0 Q (F0 m pc ls (.int i :: .ref (ad k) :: rest)) :=
  va_bald X.1 X.2.1 X.2.2.2.2.2.1 hW.1 k 1 hk.get rfl (inb_in hin) hdg kk
theorem g_zald (X : Cx p s m args c cc nL own D cy) (hW : Wd D N ad C A s.heap M H locs) {k n : Nat} (hk : isA C N k (cy 2) n) {i : Int32} (hin : inb i n = true) (hdg : decode cc pc = .ok (.baload, 1))
    (kk : W p l e R s m args below meth c H locs 0 0 Q (F0 m (pc + 1) ls (.int (M.1 k (ix i)) :: rest))) : W p l e R s m args below meth c H locs 0 0 Q (F0 m pc ls (.int i :: .ref (ad k) :: rest)) :=
  va_zald X.1 X.2.1 X.2.2.2.2.2.1 hW.1 k 2 hk.get rfl (inb_in hin) hdg kk
theorem g_iast (X : Cx p s m args c cc nL own D cy) (hW : Wd D N ad C A s.heap M H locs) {k n : Nat} (hk : isA C N k (cy 0) n) {i x : Int32} (hin : inb i n = true) (hdg : decode cc pc = .ok (.iastore, 1))
    (kk : ∀ (H1 : Heap) (locs1 : List Loc), Wd D N ad C A s.heap (sI M k (ix i) x) H1 locs1 → W p l e R s m args below meth c H1 locs1 0 0 Q (F0 m (pc + 1) ls rest)) : W p l e R s m args below meth c H locs 0 0 Q (F0 m pc ls (.int x :: .int i :: .ref (ad k) :: rest)) :=
  va_iast X.1 X.2.1 X.2.2.2.2.2.1 hW.1 hW.2.1 hW.2.2 k 0 hk.get rfl (inb_in hin) hdg (fun H1 locs1 h1 h2 h3 => by
    rw [WS_sA hk.1 (hk.2 _ _)] at h1 h2
    exact kk H1 locs1 ⟨h1, h2, h3⟩)
theorem g_bast (X : Cx p s m args c cc nL own D cy) (hW : Wd D N ad C A s.heap M H locs) {k n : Nat} (hk : isA C N k (cy 1) n) {i x : Int32} (hin : inb i n = true) (hdg : decode cc pc = .ok (.bastore, 1))
    (kk : ∀ (H1 : Heap) (locs1 : List Loc), Wd D N ad C A s.heap (sI M k (ix i) (vp_nar .byte x)) H1 locs1 → W p l e R s m args below meth c H1 locs1 0 0 Q (F0 m (pc + 1) ls rest)) : W p l e R s m args below meth c H locs 0 0 Q (F0 m pc ls (.int x :: .int i :: .ref (ad k) :: rest)) :=
  va_bast X.1 X.2.1 X.2.2.2.2.2.1 hW.1 hW.2.1 hW.2.2 k 1 hk.get rfl (inb_in hin) hdg (fun H1 locs1 h1 h2 h3 => by
    rw [WS_sA hk.1 (hk.2 _ _)] at h1 h2
    exact kk H1 locs1 ⟨h1, h2, h3⟩)
theorem g_zast (X : Cx p s m args c cc nL own D cy) (hW : Wd D N ad C A s.heap M H locs) {k n : Nat} (hk : isA C N k (cy 2) n) {i x : Int32} (hin : inb i n = true) (hdg : decode cc pc = .ok (.bastore, 1))
    (kk : ∀ (H1 : Heap) (locs1 : List Loc), Wd D N ad C A s.heap (sI M k (ix i) (vp_nar .boolean x)) H1 locs1 → W p l e R s m args below meth c H1 locs1 0 0 Q (F0 m (pc + 1) ls rest)) : W p l e R s m args below meth c H locs 0 0 Q (F0 m pc ls (.int x :: .int i :: .ref (ad k) :: rest)) :=
  va_zast X.1 X.2.1 X.2.2.2.2.2.1 hW.1 hW.2.1 hW.2.2 k 2 hk.get rfl (inb_in hin) hdg (fun H1 locs1 h1 h2 h3 => by
    rw [WS_sA hk.1 (hk.2 _ _)] at h1 h2
    exact kk H1 locs1 ⟨h1, h2, h3⟩)
theorem g_alen (X : Cx p s m args c cc nL own D cy) (hW : Wd D N ad C A s.heap M H locs) {k n t0 : Nat} {cA : ClassId} {ty : FieldType} (hk : isA C N k cA n) (ht : (tyL cy)[t0]? = some (cA, ty)) (hdg : decode cc pc = .ok (.arraylength, 1))
    (kk : W p l e R s m args below meth c H locs 0 0 Q (F0 m (pc + 1) ls (.int (nI n) :: rest))) : W p l e R s m args below meth c H locs 0 0 Q (F0 m pc ls (.ref (ad k) :: rest)) :=
  va_alen X.1 X.2.1 X.2.2.2.2.2.1 hW.1 k t0 hk.get ht rfl hdg kk
theorem g_copy (X : Cx p s m args c cc nL own D cy) (hml : ls.size = nL) (hW : Wd D N ad C A s.heap M H locs) {index : Nat} (hlink : Cond.methodLink own index arraycopyName ∈ lw_g) (hnat : Cond.native arraycopyName ∈ lw_g) (hstat : Cond.static arraycopyName ∈ lw_g) (hini : Cond.initialized "java/lang/System" ∈ lw_g) {k0 k1 n0 n1 : Nat} (h0 : isA C N k0 (cy 0) n0) (h1 : isA C N k1 (cy 0) n1) {sp dp n : Int32} (hok : cpk sp dp n n0 n1 = true) (hfr : 1 ≤ R.frames) (hlo : (rest.map fun v => v.category).sum + (nativeFrameWords "java/lang/System" "arraycopy" 5 + 11) ≤ R.locals) (hdg : decode cc pc = .ok (.invokestatic index, 3))
    (kk : ∀ (H1 : Heap) (locs1 : List Loc), Wd D N ad C A s.heap (sA M k1 (va_cpy (M.1 k0) (M.1 k1) (ix sp) (ix dp) (ix n))) H1 locs1 → W p l e R s m args below meth c H1 locs1 0 0 Q (F0 m (pc + 3) ls rest)) : W p l e R s m args below meth c H locs 0 0 Q (F0 m pc ls (.int n :: .int dp :: .ref (ad k1) :: .int sp :: .ref (ad k0) :: rest)) := by
  obtain ⟨hx, hb, hm2, hown, hts, hK, hN⟩ := X
  have hok' : ¬ sp < 0 ∧ ¬ dp < 0 ∧ ¬ n < 0 ∧ sp.toNatClampNeg + n.toNatClampNeg ≤ n0 ∧ dp.toNatClampNeg + n.toNatClampNeg ≤ n1 := of_decide_eq_true hok
  exact va_copyi hx hb (hm2.trans hml.symm) hown (hts _ hlink) (hts _ hnat) (hts _ hstat) (hts _ hini) hK hW.1 hW.2.1 hW.2.2 k0 k1 0 0 h0.get h1.get rfl rfl rfl hok'.1 hok'.2.1 hok'.2.2.1 hok'.2.2.2.1 hok'.2.2.2.2 (fun _ _ => rfl) hfr hlo hdg (fun H1 locs1 q1 q2 q3 => by
    rw [WS_sA h1.1 (h1.2 _ _)] at q1 q2
    exact kk H1 locs1 ⟨q1, q2, q3⟩)
/-! a row of rows: its places lead to the cells from b on -/
def isG (ad : Nat → Nat) (C : CF) (N k : Nat) (cA : ClassId) (n b : Nat) : Prop := k < N ∧ ∀ (fi : Nat → Int32) (fl : Nat → Int64), C k fi fl = .inl (cA, n, .inr (.inr (.inr (.inr (fun j => if j < n then some (ad (b + j)) else none)))))
theorem g_aald (X : Cx p s m args c cc nL own D cy) (hW : Wd D N ad C A s.heap M H locs) {k n b t0 : Nat} {cA : ClassId} {ty : FieldType} (hk : isG ad C N k cA n b) (ht : (tyL cy)[t0]? = some (cA, ty)) (hty : ty.isReference = true) {i : Int32} (hin : inb i n = true) (hdg : decode cc pc = .ok (.aaload, 1))
    (kk : W p l e R s m args below meth c H locs 0 0 Q (F0 m (pc + 1) ls (.ref (ad (b + ix i)) :: rest))) : W p l e R s m args below meth c H locs 0 0 Q (F0 m pc ls (.int i :: .ref (ad k) :: rest)) := by
  have hg : (WS N ad C M)[k]? = some (ad k, .inl (cA, n, .inr (.inr (.inr (.inr (fun j => if j < n then some (ad (b + j)) else none)))))) := by rw [WS_get hk.1, hk.2]
  have hc := hW.1 k _ hg
  have hlt : i.toNatClampNeg < n := inb_lt hin
  refine W.aald X.1 X.2.1 (cell := vp_cell cA (n, .inr (.inr (.inr (.inr (fun j => if j < n then some (ad (b + j)) else none)))))) (v := .ref (ad (b + ix i))) hc ((X.2.2.2.2.2.1.2 t0 _ ht).1 n _) hty (by rw [vp_cell_q]; intro h; cases h) ?_ ?_ rfl rfl hdg kk
  · rw [vp_cell_q, show (arrV cA n _).slots.size = n by simp [arrV]]
    exact of_decide_eq_true hin
  · rw [vp_cell_q]
    simp [arrV, hlt, va_rf, ix]
/-! fields -/
theorem g_get (X : Cx p s m args c cc nL own D cy) (hW : Wd D N ad C A s.heap M H locs) {k : Nat} (hk : k < N) {ci : Nat} {fs : List Value} (hc : C k (M.1 k) (M.2 k) = .inr (ci, fs)) {Cn : String} {T : u_T} {Nn index : Nat} (hcl : vwCl[ci]? = some (Cn, T, Nn)) (hin : ∀ w ∈ u_ws Cn T Nn, w ∈ lw_g) (j : Nat) (hj : j < Nn) (hlink : Cond.fieldLink own index (T j).1 (T j).2.1 (T j).2.2.1 ∈ lw_g) {v : Value} (hv : fs[j]? = some v) (hdg : decode cc pc = .ok (.getfield index, 3))
    (kk : W p l e R s m args below meth c H locs 0 0 Q (F0 m (pc + 3) ls (v :: rest))) : W p l e R s m args below meth c H locs 0 0 Q (F0 m pc ls (.ref (ad k) :: rest)) :=
  va_get X.1 X.2.1 X.2.2.2.2.1 hin X.2.2.2.1 X.2.2.2.2.2.1 hW.1 k (by rw [WS_get hk, hc]) hcl j hj (X.2.2.2.2.1 _ hlink) (fun _ h9 => h9) hv hdg kk
theorem g_getN (X : Cx p s m args c cc nL own D cy) (hW : Wd D N ad C A s.heap M H locs) {k : Nat} (hk : k < N) {ci : Nat} {fs : List Value} (hc : C k (M.1 k) (M.2 k) = .inr (ci, fs)) {Cn host : String} {T : u_T} {Nn index : Nat} (hcl : vwCl[ci]? = some (Cn, T, Nn)) (hin : ∀ w ∈ u_ws Cn T Nn, w ∈ lw_g) (j : Nat) (hj : j < Nn) (hlink : (own, index, (T j).1, (T j).2.1, (T j).2.2.1, host) ∈ nestF) {v : Value} (hv : fs[j]? = some v) (hdg : decode cc pc = .ok (.getfield index, 3))
    (kk : W p l e R s m args below meth c H locs 0 0 Q (F0 m (pc + 3) ls (v :: rest))) : W p l e R s m args below meth c H locs 0 0 Q (F0 m pc ls (.ref (ad k) :: rest)) :=
  va_getN X.1 X.2.1 X.2.2.2.2.1 hin X.2.2.2.1 X.2.2.2.2.2.1 hW.1 k (by rw [WS_get hk, hc]) hcl j hj (va_Nw.use rfl (X.2.2.2.2.2.2.1 _ hlink)) (fun _ h9 => h9) hv hdg kk
theorem g_putI (X : Cx p s m args c cc nL own D cy) (hW : Wd D N ad C A s.heap M H locs) {k : Nat} (hk : k < N) {ci : Nat} {fs : List Value} (hc : C k (M.1 k) (M.2 k) = .inr (ci, fs)) {Cn : String} {T : u_T} {Nn index : Nat} (hcl : vwCl[ci]? = some (Cn, T, Nn)) (hin : ∀ w ∈ u_ws Cn T Nn, w ∈ lw_g) (ty0 : Nat → FieldType) (hty : ∀ k, k < Nn → parseFieldDescriptor (T k).2.2.1 = some (ty0 k)) (hnm : ∀ a, a < Nn → ∀ b, b < Nn → a ≠ b → (T a).2.1 ≠ (T b).2.1) (j : Nat) (hj : j < Nn) (hlink : Cond.fieldLink own index (T j).1 (T j).2.1 (T j).2.2.1 ∈ lw_g) (hfin : (T j).2.2.2 = false) {v : Int32} (hd : parseFieldDescriptor (T j).2.2.1 = some .int) (hl : j < fs.length) (hset : C k (upd (M.1 k) j v) (M.2 k) = .inr (ci, fs.set j (.int v))) (hdg : decode cc pc = .ok (.putfield index, 3))
    (kk : ∀ (H1 : Heap) (locs1 : List Loc), Wd D N ad C A s.heap (sI M k j v) H1 locs1 → W p l e R s m args below meth c H1 locs1 0 0 Q (F0 m (pc + 3) ls rest)) : W p l e R s m args below meth c H locs 0 0 Q (F0 m pc ls (.int v :: .ref (ad k) :: rest)) :=
  va_put X.1 X.2.1 X.2.2.2.2.1 hin ty0 hty hnm X.2.2.2.1 X.2.2.2.2.2.1 hW.1 hW.2.1 hW.2.2 k (by rw [WS_get hk, hc]) hcl j hj (X.2.2.2.2.1 _ hlink) (fun _ h9 => h9) hfin hd rfl rfl hl hdg (fun H1 locs1 h1 h2 h3 => by
    rw [WS_sA hk hset] at h1 h2
    exact kk H1 locs1 ⟨h1, h2, h3⟩)
theorem g_putL (X : Cx p s m args c cc nL own D cy) (hW : Wd D N ad C A s.heap M H locs) {k : Nat} (hk : k < N) {ci : Nat} {fs : List Value} (hc : C k (M.1 k) (M.2 k) = .inr (ci, fs)) {Cn : String} {T : u_T} {Nn index : Nat} (hcl : vwCl[ci]? = some (Cn, T, Nn)) (hin : ∀ w ∈ u_ws Cn T Nn, w ∈ lw_g) (ty0 : Nat → FieldType) (hty : ∀ k, k < Nn → parseFieldDescriptor (T k).2.2.1 = some (ty0 k)) (hnm : ∀ a, a < Nn → ∀ b, b < Nn → a ≠ b → (T a).2.1 ≠ (T b).2.1) (j : Nat) (hj : j < Nn) (hlink : Cond.fieldLink own index (T j).1 (T j).2.1 (T j).2.2.1 ∈ lw_g) (hfin : (T j).2.2.2 = false) {v : Int64} (hd : parseFieldDescriptor (T j).2.2.1 = some .long) (hl : j < fs.length) (hset : C k (M.1 k) (vp_updL (M.2 k) j v) = .inr (ci, fs.set j (.long v))) (hdg : decode cc pc = .ok (.putfield index, 3))
    (kk : ∀ (H1 : Heap) (locs1 : List Loc), Wd D N ad C A s.heap (sL M k j v) H1 locs1 → W p l e R s m args below meth c H1 locs1 0 0 Q (F0 m (pc + 3) ls rest)) : W p l e R s m args below meth c H locs 0 0 Q (F0 m pc ls (.long v :: .ref (ad k) :: rest)) :=
  va_put X.1 X.2.1 X.2.2.2.2.1 hin ty0 hty hnm X.2.2.2.1 X.2.2.2.2.2.1 hW.1 hW.2.1 hW.2.2 k (by rw [WS_get hk, hc]) hcl j hj (X.2.2.2.2.1 _ hlink) (fun _ h9 => h9) hfin hd rfl rfl hl hdg (fun H1 locs1 h1 h2 h3 => by
    rw [WS_sL hk hset] at h1 h2
    exact kk H1 locs1 ⟨h1, h2, h3⟩)
/-! calls -/
theorem PreW.calls {sz : Nat} {U : State} {g : JFrame} {mk : MethodId} {av : List Value} (a : Array Value) (h : va_Pc av (PreW N C D cy ad sz M) a U) : va_Pc av (PreW N C D cy ad sz M) a (U.calling g mk a) := by
  obtain ⟨h0, h1, h2, h3, h4, h5, h6⟩ := h
  exact ⟨h0, h1, h2, va_K.moved (u := U) (U := U.calling g mk a) (Vm.Alike.refl U.vm) h3, h4, NW.same (s := U) (U := U.calling g mk a) rfl h5, h6.sub (Vm.Alike.refl U.vm) (fun _ h => h) (fun _ _ _ => rfl)⟩
theorem Wd.pre (X : Cx p s m args c cc nL own D cy) (hZ : SZ A s s.heap) (hA : ∀ q, s.heap.size ≤ q → A q) (hW : Wd D N ad C A s.heap M H locs) {U : State} (hU : U.heap = H) (hw : s.WarmedH U.vm) : PreW N C D cy ad H.size M U := by
  have hF := va_free (wc := WS N ad C M) hW.2.1 hW.2.2 hA (List.range (WS N ad C M).length) (by
    apply List.ext_getElem?
    intro i
    by_cases h : i < (WS N ad C M).length
    · simp [h]
    · simp [Nat.le_of_not_lt h])
  refine ⟨by rw [hU], by rw [hU]; exact hW.1, va_K.moved hw.alike X.2.2.2.2.2.1, hW.2.1.weaken (fun _ _ _ _ => trivial), X.2.2.2.2.2.2.warm hw, ?_⟩
  rw [hU]
  exact hZ.sub hw.alike hF hW.2.2.2.1
theorem Wd.free (hA : ∀ q, s.heap.size ≤ q → A q) (hW : Wd D N ad C A s.heap M H locs) : ∀ q, va_A (WS N ad C M) H.size q → A q :=
  va_free (wc := WS N ad C M) hW.2.1 hW.2.2 hA (List.range (WS N ad C M).length) (by
    apply List.ext_getElem?
    intro i
    by_cases h : i < (WS N ad C M).length
    · simp [h]
    · simp [Nat.le_of_not_lt h])
theorem Wd.back (hA : ∀ q, s.heap.size ≤ q → A q) (hW : Wd D N ad C A s.heap M H locs) {t : State} {H1 : Heap} {locs1 : List Loc} (ht : t.heap = H1) (hB : AtW N C D cy ad (va_A (WS N ad C M) H.size) M' t) (hS : va_S A s.heap H1 locs1) : Wd D N ad C A s.heap M' H1 locs1 := by
  refine ⟨by rw [← ht]; exact hB.1, ⟨hB.2.2.1, fun k q hk => hW.free hA q.1 (hB.2.2.2 k q hk)⟩, hS⟩
end G1
