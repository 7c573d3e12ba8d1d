/-! numbers: ints that are natural ones -/
theorem ixn {n : Nat} (h : n < 2147483648) : ix (nI n) = n := nI_clamp h
theorem inb_t {i n : Nat} (h : i < n) (hn : n < 2147483648) : inb (nI i) n = true := by
  unfold inb
  rw [decide_eq_true_iff]
  exact nI_in h hn
theorem inb_f {x : Int32} {n : Nat} (h : ¬ vp_in x n) : inb x n = false := by
  unfold inb
  rw [decide_eq_false_iff_not]
  exact h
theorem grd_t {α : Type} {b : Bool} {x : Option α} (h : b = true) : grd b x = x := by rw [h]; rfl
theorem n_lit (n : Nat) : (OfNat.ofNat n : Int32) = nI n := rfl
theorem n0 : (0 : Int32) = nI 0 := rfl
theorem n1 : (1 : Int32) = nI 1 := rfl
theorem n2 : (2 : Int32) = nI 2 := rfl
theorem n3 : (3 : Int32) = nI 3 := rfl
theorem n7 : (7 : Int32) = nI 7 := rfl
theorem n8 : (8 : Int32) = nI 8 := rfl
theorem leN {a b : Nat} (ha : a < 2147483648) (hb : b < 2147483648) : (nI a ≤ nI b) = (a ≤ b) := propext (nI_leI ha hb)
theorem ltN {a b : Nat} (ha : a < 2147483648) (hb : b < 2147483648) : (nI a < nI b) = (a < b) := propext (nI_ltI ha hb)
theorem eqN {a b : Nat} (ha : a < 2147483648) (hb : b < 2147483648) : (nI a = nI b) = (a = b) := propext (nI_eq ha hb)
theorem irmN {a d : Nat} (ha : a < 2147483648) (h0 : 0 < d) (hd : d < 2147483648) : irm (nI a) (nI d) = nI (a % d) := pk_rem ha h0 hd
theorem divN {a d : Nat} (ha : a < 2147483648) (h0 : 0 < d) (hd : d < 2147483648) : nI a / nI d = nI (a / d) := pk_div ha h0 hd
theorem addN (a b : Nat) : nI a + nI b = nI (a + b) := nI_add a b
theorem subN {a b : Nat} (h : b ≤ a) : nI a - nI b = nI (a - b) := pk_sub h
theorem mulN (a b : Nat) : nI a * nI b = nI (a * b) := pk_mul a b
theorem nzN {y : Nat} (h0 : 0 < y) (h : y < 2147483648) : nz (nI y) = true := by
  unfold nz
  rw [decide_eq_true_iff]
  exact nI_ne0 h0 h
theorem shrN {n k : Nat} (hn : n < 2147483648) (hk : k < 32) : shr (nI n) (nI k) = nI (n / 2 ^ k) := by
  unfold shr
  have hs : ∀ k, k < 32 → (((nI k) &&& 31).toBitVec.smod 32).toNat = k := by decide +kernel
  exact pk_shrN hn _ k (hs k hk)
theorem shlN {n k : Nat} (hk : k < 32) (h : n * 2 ^ k < 4294967296) : shl (nI n) (nI k) = nI (n * 2 ^ k) := by
  unfold shl
  have hs : ∀ k, k < 32 → (((nI k) &&& 31).toBitVec.smod 32).toNat = k := by decide +kernel
  exact pk_shlN _ k (hs k hk) h
theorem andN1 {n : Nat} (h : n < 4294967296) : nI n &&& 1 = nI (n % 2) := pk_andN h 1 (by decide)
theorem andN (a b : Nat) : nI a &&& nI b = nI (a &&& b) := by
  unfold nI
  apply Int32.toBitVec_inj.mp
  simp [Int32.toBitVec_and]
theorem orN (a b : Nat) : nI a ||| nI b = nI (a ||| b) := by
  unfold nI
  apply Int32.toBitVec_inj.mp
  simp [Int32.toBitVec_or]
theorem xorN (a b : Nat) : nI a ^^^ nI b = nI (a ^^^ b) := by
  unfold nI
  apply Int32.toBitVec_inj.mp
  simp [Int32.toBitVec_xor]
theorem bR_s {α β : Type} (a : α) (k : α → Option β) : bR (some a) k = k a := rfl
theorem bI_s {α β : Type} (a : α) (m : Mem) (k : α → Mem → Option β) : bI (some (a, m)) k = k a m := rfl
theorem upd_same (f : Nat → Int32) (k : Nat) (x : Int32) : upd f k x k = x := by simp [upd]
theorem upd_ne (f : Nat → Int32) {k j : Nat} (x : Int32) (h : j ≠ k) : upd f k x j = f j := by simp [upd, h]
theorem sI_1 (M : Mem) (k i : Nat) (v : Int32) : (sI M k i v).1 k = upd (M.1 k) i v := sA_1 M k _
theorem sI_n (M : Mem) (k i : Nat) (v : Int32) {a : Nat} (h : a ≠ k) : (sI M k i v).1 a = M.1 a := sA_n M k _ h
theorem sI_2 (M : Mem) (k i : Nat) (v : Int32) : (sI M k i v).2 = M.2 := rfl
theorem iteLe {α : Type} {a b : Nat} (ha : a < 2147483648) (hb : b < 2147483648) {q : Decidable (nI a ≤ nI b)} {x y : α} : (@ite α (nI a ≤ nI b) q x y) = if a ≤ b then x else y := by
  by_cases h : a ≤ b
  · rw [if_pos h, if_pos ((nI_leI ha hb).mpr h)]
  · rw [if_neg h, if_neg (fun z => h ((nI_leI ha hb).mp z))]
theorem iteLt {α : Type} {a b : Nat} (ha : a < 2147483648) (hb : b < 2147483648) {q : Decidable (nI a < nI b)} {x y : α} : (@ite α (nI a < nI b) q x y) = if a < b then x else y := by
  by_cases h : a < b
  · rw [if_pos h, if_pos ((nI_ltI ha hb).mpr h)]
  · rw [if_neg h, if_neg (fun z => h ((nI_ltI ha hb).mp z))]
theorem iteEq {α : Type} {a b : Nat} (ha : a < 2147483648) (hb : b < 2147483648) {q : Decidable (nI a = nI b)} {x y : α} : (@ite α (nI a = nI b) q x y) = if a = b then x else y := by
  by_cases h : a = b
  · rw [if_pos h, if_pos ((nI_eq ha hb).mpr h)]
  · rw [if_neg h, if_neg (fun z => h ((nI_eq ha hb).mp z))]
theorem at0 {α : Type} (f : Int32 → α) {r : α} (h : f (nI 0) = r) : f 0 = r := h
theorem at1 {α : Type} (f : Int32 → α) {r : α} (h : f (nI 1) = r) : f 1 = r := h
theorem FUx : ∃ fu : Nat, fu = FU ∧ 90000 < fu := ⟨FU, rfl, by unfold FU; omega⟩
theorem one_ne : ¬ (1 : Int32) = 0 := by decide
theorem if10 {α : Type} {q : Decidable ((1 : Int32) = 0)} {a b : α} : (@ite α ((1 : Int32) = 0) q a b) = b := if_neg one_ne
theorem if00 {α : Type} {q : Decidable ((0 : Int32) = 0)} {a b : α} : (@ite α ((0 : Int32) = 0) q a b) = a := if_pos rfl
