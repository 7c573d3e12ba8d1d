/-! the pure memory: ints and longs by cell and place; a world of numbered cells over it -/
abbrev Mem : Type := (Nat → Nat → Int32) × (Nat → Nat → Int64)
def sA (M : Mem) (k : Nat) (f : Nat → Int32) : Mem := (fun a => if a = k then f else M.1 a, M.2)
def sI (M : Mem) (k i : Nat) (v : Int32) : Mem := sA M k (upd (M.1 k) i v)
def sL (M : Mem) (k i : Nat) (v : Int64) : Mem := (M.1, fun a => if a = k then vp_updL (M.2 k) i v else M.2 a)
abbrev CF : Type := Nat → (Nat → Int32) → (Nat → Int64) → va_E
def WS (N : Nat) (ad : Nat → Nat) (C : CF) (M : Mem) : va_W := (List.range N).map (fun k => (ad k, C k (M.1 k) (M.2 k)))
theorem WS_get {N : Nat} {ad : Nat → Nat} {C : CF} {M : Mem} {k : Nat} (hk : k < N) : (WS N ad C M)[k]? = some (ad k, C k (M.1 k) (M.2 k)) := by
  simp [WS, hk]
theorem WS_set {N : Nat} {ad : Nat → Nat} {C : CF} {M M' : Mem} {k : Nat} {E : va_E} (hk : k < N) (h1 : C k (M'.1 k) (M'.2 k) = E) (ho : ∀ j, j ≠ k → M'.1 j = M.1 j ∧ M'.2 j = M.2 j) : (WS N ad C M).set k (ad k, E) = WS N ad C M' := by
  apply List.ext_getElem?
  intro j
  by_cases e : k = j
  · subst e
    rw [List.getElem?_set_self (by simpa [WS] using hk), WS_get hk, h1]
  · rw [List.getElem?_set_ne e]
    by_cases hj : j < N
    · rw [WS_get hj, WS_get hj, (ho j (Ne.symm e)).1, (ho j (Ne.symm e)).2]
    · have h2 : N ≤ j := Nat.le_of_not_lt hj
      simp [WS, h2]
theorem sA_1 (M : Mem) (k : Nat) (f : Nat → Int32) : (sA M k f).1 k = f := by simp [sA]
theorem sA_2 (M : Mem) (k : Nat) (f : Nat → Int32) (a : Nat) : (sA M k f).2 a = M.2 a := rfl
theorem sA_n (M : Mem) (k : Nat) (f : Nat → Int32) {a : Nat} (h : a ≠ k) : (sA M k f).1 a = M.1 a := by simp [sA, h]
theorem sL_1 (M : Mem) (k i : Nat) (v : Int64) (a : Nat) : (sL M k i v).1 a = M.1 a := rfl
theorem sL_2 (M : Mem) (k i : Nat) (v : Int64) : (sL M k i v).2 k = vp_updL (M.2 k) i v := by simp [sL]
theorem sL_n (M : Mem) (k i : Nat) (v : Int64) {a : Nat} (h : a ≠ k) : (sL M k i v).2 a = M.2 a := by simp [sL, h]
theorem WS_sA {N : Nat} {ad : Nat → Nat} {C : CF} {M : Mem} {k : Nat} {f : Nat → Int32} {E : va_E} (hk : k < N) (h1 : C k f (M.2 k) = E) : (WS N ad C M).set k (ad k, E) = WS N ad C (sA M k f) :=
  WS_set hk (by rw [sA_1, sA_2]; exact h1) (fun j hj => ⟨sA_n M k f hj, rfl⟩)
theorem WS_sL {N : Nat} {ad : Nat → Nat} {C : CF} {M : Mem} {k i : Nat} {v : Int64} {E : va_E} (hk : k < N) (h1 : C k (M.1 k) (vp_updL (M.2 k) i v) = E) : (WS N ad C M).set k (ad k, E) = WS N ad C (sL M k i v) :=
  WS_set hk (by rw [sL_1, sL_2]; exact h1) (fun j hj => ⟨rfl, sL_n M k i v hj⟩)
/-! words of the forms -/
def inb (i : Int32) (n : Nat) : Bool := decide (¬ (i < 0 ∨ n ≤ i.toNatClampNeg))
theorem inb_in {i : Int32} {n : Nat} (h : inb i n = true) : vp_in i n := by
  have h1 : ¬ (i < 0 ∨ n ≤ i.toNatClampNeg) := of_decide_eq_true h
  exact h1
theorem inb_lt {i : Int32} {n : Nat} (h : inb i n = true) : i.toNatClampNeg < n := by
  have h1 : ¬ (i < 0 ∨ n ≤ i.toNatClampNeg) := of_decide_eq_true h
  exact Nat.lt_of_not_le (fun q => h1 (Or.inr q))
abbrev ix (i : Int32) : Nat := i.toNatClampNeg
def grd {α : Type} (b : Bool) (x : Option α) : Option α := if b = true then x else none
theorem grd_some {α : Type} {b : Bool} {x : Option α} {r : α} (h : grd b x = some r) : b = true ∧ x = some r := by
  unfold grd at h
  split at h
  · exact ⟨by assumption, h⟩
  · cases h
def bI {α β : Type} (o : Option (α × Mem)) (k : α → Mem → Option β) : Option β := match o with
  | some q => k q.1 q.2
  | none => none
theorem bI_some {α β : Type} {o : Option (α × Mem)} {k : α → Mem → Option β} {r : β} (h : bI o k = some r) : ∃ (a : α) (m : Mem), o = some (a, m) ∧ k a m = some r := by
  cases o with
  | none => cases h
  | some q => exact ⟨q.1, q.2, rfl, h⟩
def bR {α β : Type} (o : Option α) (k : α → Option β) : Option β := match o with
  | some a => k a
  | none => none
theorem bR_some {α β : Type} {o : Option α} {k : α → Option β} {r : β} (h : bR o k = some r) : ∃ a : α, o = some a ∧ k a = some r := by
  cases o with
  | none => cases h
  | some q => exact ⟨q, rfl, h⟩
def jn {α β : Type} (A : α → β) (k : α) : β := A k
theorem jn_some {α β : Type} {A : α → Option β} {K : α} {r : β} (h : jn A K = some r) : ∃ k : α, k = K ∧ A k = some r := ⟨K, rfl, h⟩
theorem ifp {α : Type} {c : Prop} {q : Decidable c} {a b r : α} (hc : c) (h : (if c then a else b) = r) : a = r := by rwa [if_pos hc] at h
theorem ifn {α : Type} {c : Prop} {q : Decidable c} {a b r : α} (hc : ¬ c) (h : (if c then a else b) = r) : b = r := by rwa [if_neg hc] at h
def irm (x y : Int32) : Int32 := x - x / y * y
def lrm (x y : Int64) : Int64 := x - x / y * y
def shl (x y : Int32) : Int32 := x <<< (y &&& 31)
def shr (x y : Int32) : Int32 := x >>> (y &&& 31)
def nz (y : Int32) : Bool := decide (¬ y = 0)
def nzL (y : Int64) : Bool := decide (¬ y = 0)
theorem nz_ne {y : Int32} (h : nz y = true) : ¬ y = 0 := of_decide_eq_true h
theorem nzL_ne {y : Int64} (h : nzL y = true) : ¬ y = 0 := of_decide_eq_true h
def mxI (x y : Int32) : Int32 := if x < y then y else x
def mnI (x y : Int32) : Int32 := if y < x then y else x
def isB (v : Int32) : Bool := decide (v = 0 ∨ v = 1)
theorem isB_nar {v : Int32} (h : isB v = true) : narrow .boolean (.int v) = .int v := by
  have h1 : v = 0 ∨ v = 1 := of_decide_eq_true h
  rcases h1 with rfl | rfl <;> rfl
def cpk (sp dp n : Int32) (n0 n1 : Nat) : Bool := decide (¬ sp < 0 ∧ ¬ dp < 0 ∧ ¬ n < 0 ∧ sp.toNatClampNeg + n.toNatClampNeg ≤ n0 ∧ dp.toNatClampNeg + n.toNatClampNeg ≤ n1)
def FU : Nat := 100000
def lett (j : Nat) : Int32 := ([116, 119, 101, 115, 102, 100] : List Int32).getD j 0
/-! the tables' words that every method may rest on -/
def lw_g : List Cond := lw_tbl.filter goodWord
theorem mem_g {i : Nat} {w : Cond} (h : lw_tbl[i]? = some w) (hg : goodWord w = true) : w ∈ lw_g := List.mem_filter.mpr ⟨List.mem_of_getElem? h, hg⟩
theorem lw_g_tbl {w : Cond} (h : w ∈ lw_g) : w ∈ lw_tbl := (List.mem_filter.mp h).1
theorem good_g {big : List Cond} {w : Cond} (hb : ∀ w ∈ lw_g, w ∈ big) (h : w ∈ lw_g) : w ∈ big ∧ ((w.onTables && w.keeps) = true ∨ ∃ ty, w = .arrayClass ty) := ⟨hb w h, good_of_word (List.mem_filter.mp h).2⟩
def cds (y : MethodName) (bytes : ByteArray) (maxL : Nat) (ret : Option FieldType) : List Cond := .code y bytes maxL ret :: lw_g
theorem good_cds {big : List Cond} (hb : ∀ w ∈ lw_g, w ∈ big) {y : MethodName} {bytes : ByteArray} {maxL : Nat} {ret : Option FieldType} (hc : Cond.code y bytes maxL ret ∈ lw_g) (w : Cond) (hw : w ∈ cds y bytes maxL ret) : w ∈ big ∧ ((w.onTables && w.keeps) = true ∨ ∃ ty, w = .arrayClass ty) := by
  rcases List.mem_cons.mp hw with h | h
  · rw [h]; exact good_g hb hc
  · exact good_g hb h
def rmD (d : Nat) : Room := { frames := d, cells := 0, slots := 0, locals := 40 * d }
abbrev tyL (cy : Nat → ClassId) : List (ClassId × FieldType) := [(cy 0, .int), (cy 1, .byte), (cy 2, .boolean), (cy 3, .array .int), (cy 4, .array .byte)]
