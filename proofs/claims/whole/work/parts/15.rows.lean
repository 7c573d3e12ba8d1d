section G4
variable {p : Program} {l : Launch} {e : Env} {R : Room} {s : State} {m : MethodId} {args : Array Value} {below : List Frame} {meth : Method} {c : Code} {H : Heap} {locs : List Loc} {cells slots : Nat} {Q : State → Prop}
variable {cc : ByteArray} {pc nL : Nat} {ls : Array Slot} {rest : List Value} {D : va_G} {A : Nat → Prop} {cy : Nat → ClassId} {own : String} {N : Nat} {ad : Nat → Nat} {C : CF} {M M' : Mem}
theorem r_irem (hexec : p.tables.exec = Jvm.exec) (hb : c.code = cc) {x y : Int32} (hdg : decode cc pc = .ok (.irem, 1)) (hne : ¬ y = 0)
    (k : W p l e R s m args below meth c H locs cells slots Q (F0 m (pc + 1) ls (.int (irm x y) :: rest))) : W p l e R s m args below meth c H locs cells slots Q (F0 m pc ls (.int y :: .int x :: rest)) := lv_irem hexec hb hdg hne k
theorem r_lrem (hexec : p.tables.exec = Jvm.exec) (hb : c.code = cc) {x y : Int64} (hdg : decode cc pc = .ok (.lrem, 1)) (hne : ¬ y = 0)
    (k : W p l e R s m args below meth c H locs cells slots Q (F0 m (pc + 1) ls (.long (lrm x y) :: rest))) : W p l e R s m args below meth c H locs cells slots Q (F0 m pc ls (.long y :: .long x :: rest)) := lv_lrem hexec hb hdg hne k
theorem r_ishl (hexec : p.tables.exec = Jvm.exec) (hb : c.code = cc) {x y : Int32} (hdg : decode cc pc = .ok (.ishl, 1))
    (k : W p l e R s m args below meth c H locs cells slots Q (F0 m (pc + 1) ls (.int (shl x y) :: rest))) : W p l e R s m args below meth c H locs cells slots Q (F0 m pc ls (.int y :: .int x :: rest)) := lv_ishl hexec hb hdg k
theorem r_ishr (hexec : p.tables.exec = Jvm.exec) (hb : c.code = cc) {x y : Int32} (hdg : decode cc pc = .ok (.ishr, 1))
    (k : W p l e R s m args below meth c H locs cells slots Q (F0 m (pc + 1) ls (.int (shr x y) :: rest))) : W p l e R s m args below meth c H locs cells slots Q (F0 m pc ls (.int y :: .int x :: rest)) := lv_ishr hexec hb hdg k
theorem r_max (X : Cx p s m args c cc nL own D cy) (hml : ls.size = nL) {index : Nat} (hlink : Cond.methodLink own index Lib.Math.max.name ∈ lw_g) (hfr : 1 ≤ R.frames) (hlo : (rest.map fun v => v.category).sum + 13 ≤ R.locals) {x y : Int32} (hdg : decode cc pc = .ok (.invokestatic index, 3))
    (kk : W p l e R s m args below meth c H locs 0 0 Q (F0 m (pc + 3) ls (.int (mxI x y) :: rest))) : W p l e R s m args below meth c H locs 0 0 Q (F0 m pc ls (.int y :: .int x :: rest)) :=
  va_mmax X.1 X.2.1 (X.2.2.1.trans hml.symm) X.2.2.2.1 (X.2.2.2.2.1 _ hlink) (X.2.2.2.2.1 _ q_mmaxs) (X.2.2.2.2.1 _ q_inMath) (X.2.2.2.2.1 _ q_mmaxc) hfr hlo (Nat.zero_le _) (Nat.zero_le _) hdg kk
theorem r_min (X : Cx p s m args c cc nL own D cy) (hml : ls.size = nL) {index : Nat} (hlink : Cond.methodLink own index Lib.Math.min.name ∈ lw_g) (hfr : 1 ≤ R.frames) (hlo : (rest.map fun v => v.category).sum + 13 ≤ R.locals) {x y : Int32} (hdg : decode cc pc = .ok (.invokestatic index, 3))
    (kk : W p l e R s m args below meth c H locs 0 0 Q (F0 m (pc + 3) ls (.int (mnI x y) :: rest))) : W p l e R s m args below meth c H locs 0 0 Q (F0 m pc ls (.int y :: .int x :: rest)) :=
  va_mmin X.1 X.2.1 (X.2.2.1.trans hml.symm) X.2.2.2.1 (X.2.2.2.2.1 _ hlink) (X.2.2.2.2.1 _ q_mmins) (X.2.2.2.2.1 _ q_inMath) (X.2.2.2.2.1 _ q_mminc) hfr hlo (Nat.zero_le _) (Nat.zero_le _) hdg kk
/-- a switch's place, by what its number isn't -/
theorem sw_ne {x k : Int32} {a : Int} (h : ¬ x = k) (hk : k.toInt = a) : ¬ x.toInt = a := lv_neT h hk
end G4
theorem jn_some0 {γ : Type} {A : (Option γ) → Option γ} {K : Option γ} {r : γ} (h : jn A K = some r) : ∃ k : Option γ, (k = K) ∧ A k = some r := ⟨K, rfl, h⟩
theorem jn_some1 {α0 γ : Type} {A : (α0 → Option γ) → Option γ} {K : α0 → Option γ} {r : γ} (h : jn A K = some r) : ∃ k : α0 → Option γ, (∀ (a0 : α0), k a0 = K a0) ∧ A k = some r := ⟨K, fun _ => rfl, h⟩
theorem jn_some2 {α0 α1 γ : Type} {A : (α0 → α1 → Option γ) → Option γ} {K : α0 → α1 → Option γ} {r : γ} (h : jn A K = some r) : ∃ k : α0 → α1 → Option γ, (∀ (a0 : α0) (a1 : α1), k a0 a1 = K a0 a1) ∧ A k = some r := ⟨K, fun _ _ => rfl, h⟩
theorem jn_some3 {α0 α1 α2 γ : Type} {A : (α0 → α1 → α2 → Option γ) → Option γ} {K : α0 → α1 → α2 → Option γ} {r : γ} (h : jn A K = some r) : ∃ k : α0 → α1 → α2 → Option γ, (∀ (a0 : α0) (a1 : α1) (a2 : α2), k a0 a1 a2 = K a0 a1 a2) ∧ A k = some r := ⟨K, fun _ _ _ => rfl, h⟩
theorem jn_some4 {α0 α1 α2 α3 γ : Type} {A : (α0 → α1 → α2 → α3 → Option γ) → Option γ} {K : α0 → α1 → α2 → α3 → Option γ} {r : γ} (h : jn A K = some r) : ∃ k : α0 → α1 → α2 → α3 → Option γ, (∀ (a0 : α0) (a1 : α1) (a2 : α2) (a3 : α3), k a0 a1 a2 a3 = K a0 a1 a2 a3) ∧ A k = some r := ⟨K, fun _ _ _ _ => rfl, h⟩
theorem jn_some5 {α0 α1 α2 α3 α4 γ : Type} {A : (α0 → α1 → α2 → α3 → α4 → Option γ) → Option γ} {K : α0 → α1 → α2 → α3 → α4 → Option γ} {r : γ} (h : jn A K = some r) : ∃ k : α0 → α1 → α2 → α3 → α4 → Option γ, (∀ (a0 : α0) (a1 : α1) (a2 : α2) (a3 : α3) (a4 : α4), k a0 a1 a2 a3 a4 = K a0 a1 a2 a3 a4) ∧ A k = some r := ⟨K, fun _ _ _ _ _ => rfl, h⟩
theorem jn_some6 {α0 α1 α2 α3 α4 α5 γ : Type} {A : (α0 → α1 → α2 → α3 → α4 → α5 → Option γ) → Option γ} {K : α0 → α1 → α2 → α3 → α4 → α5 → Option γ} {r : γ} (h : jn A K = some r) : ∃ k : α0 → α1 → α2 → α3 → α4 → α5 → Option γ, (∀ (a0 : α0) (a1 : α1) (a2 : α2) (a3 : α3) (a4 : α4) (a5 : α5), k a0 a1 a2 a3 a4 a5 = K a0 a1 a2 a3 a4 a5) ∧ A k = some r := ⟨K, fun _ _ _ _ _ _ => rfl, h⟩
theorem jn_some7 {α0 α1 α2 α3 α4 α5 α6 γ : Type} {A : (α0 → α1 → α2 → α3 → α4 → α5 → α6 → Option γ) → Option γ} {K : α0 → α1 → α2 → α3 → α4 → α5 → α6 → Option γ} {r : γ} (h : jn A K = some r) : ∃ k : α0 → α1 → α2 → α3 → α4 → α5 → α6 → Option γ, (∀ (a0 : α0) (a1 : α1) (a2 : α2) (a3 : α3) (a4 : α4) (a5 : α5) (a6 : α6), k a0 a1 a2 a3 a4 a5 a6 = K a0 a1 a2 a3 a4 a5 a6) ∧ A k = some r := ⟨K, fun _ _ _ _ _ _ _ => rfl, h⟩
def lt {α β : Type} (v : α) (k : α → β) : β := k v
theorem lt_some {α γ : Type} {v : α} {K : α → Option γ} {r : γ} (h : lt v K = some r) : ∃ x : α, x = v ∧ K x = some r := ⟨v, rfl, h⟩
