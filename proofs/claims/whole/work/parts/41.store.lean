/-! the store as numbers: how it is made (tubes, kinds, lengths, marks), how it stands (tick, words, ways) -/
abbrev Cfg : Type := Nat × (Nat → Nat) × (Nat → Nat) × (Nat → Nat)
abbrev Sg : Type := Nat × (Nat → Nat) × (Nat → Nat)
def okC (c : Cfg) : Prop := c.1 ≤ 7 ∧ ∀ i, i < c.1 → c.2.1 i ≤ 5 ∧ 2 ≤ c.2.2.1 i ∧ c.2.2.1 i ≤ 9 ∧ c.2.2.2 i ≤ 9
def okS (c : Cfg) (σ : Sg) : Prop := (∀ i, i < c.1 → σ.2.1 i < 2 ^ c.2.2.1 i ∧ σ.2.2 i < c.1) ∧ ∀ i j, i < c.1 → j < c.1 → σ.2.2 i = σ.2.2 j → i = j
def stC (M : Mem) (o : Nat) (c : Cfg) (σ : Sg) : Prop := M.1 o 6 = nI c.1 ∧ M.1 o 7 = nI σ.1 ∧ ∀ i, i < c.1 → M.1 (o + 1) i = nI (c.2.1 i) ∧ M.1 (o + 2) i = nI (c.2.2.1 i) ∧ M.1 (o + 3) i = nI (c.2.2.2 i) ∧ M.1 (o + 4) i = nI (σ.2.1 i) ∧ M.1 (o + 5) i = nI (σ.2.2 i)
def stM (M : Mem) (k : Nat) (c : Cfg) (σ : Sg) : Prop := M.1 0 4 = nI c.1 ∧ M.1 k 0 = nI σ.1 ∧ ∀ i, i < c.1 → M.1 5 i = nI (c.2.1 i) ∧ M.1 6 i = nI (c.2.2.1 i) ∧ M.1 7 i = nI (c.2.2.2 i) ∧ M.1 k (1 + i) = nI (σ.2.1 i) ∧ M.1 k (8 + i) = nI (σ.2.2 i)
def rdN (k t : Nat) : Bool := decide (¬ k = 3 ∨ t % 2 = 0)
def outN (c : Cfg) (σ : Sg) (i : Nat) : Nat := if rdN (c.2.1 i) σ.1 = true then σ.2.1 i % 2 else 0
def stk (m t : Nat) : Bool := decide (t % (m + 2) = 0)
def lst (w l : Nat) : Nat := w / 2 ^ (l - 1) % 2
def snt (as m t w l x : Nat) : Nat := if as = 1 then (if stk m t = true then 0 else x) else if as = 2 then (if lst w l = 1 then (if stk m t = true then 1 else x) else x) else if as = 4 then (if stk m t = true then 1 - x else x) else if as = 5 then (if lst w l = 1 then (if stk m t = true then 1 else x) else (if t % 3 = 0 then 0 else x)) else x
theorem okW {c : Cfg} {σ : Sg} (hc : okC c) (hs : okS c σ) {i : Nat} (hi : i < c.1) : σ.2.1 i < 512 := by
  have h1 := (hs.1 i hi).1
  have h2 := (hc.2 i hi).2.2.1
  have h3 : 2 ^ c.2.2.1 i ≤ 2 ^ 9 := Nat.pow_le_pow_right (by decide) h2
  omega
theorem outN_le (c : Cfg) (σ : Sg) (i : Nat) : outN c σ i ≤ 1 := by
  unfold outN
  split <;> omega
theorem lst_le (w l : Nat) : lst w l ≤ 1 := by unfold lst; omega
theorem cs_has {M : Mem} {o : Nat} {c : Cfg} {σ : Sg} (h : stC M o c σ) (hc : okC c) {i : Nat} (hi : i < c.1) : f_X0_has o (nI i) M = some 1 := by
  have hn := hc.1
  unfold f_X0_has
  rw [h.1, if_neg (nI_pos (by omega)), iteLe (by omega) (by omega), if_neg (by omega)]
theorem cs_hasN {M : Mem} {o : Nat} {c : Cfg} {σ : Sg} (h : stC M o c σ) (hc : okC c) {x : Int32} (hx : ¬ ∃ i, i < c.1 ∧ x = nI i) : f_X0_has o x M = some 0 := by
  have hn := hc.1
  unfold f_X0_has
  rw [h.1]
  by_cases h0 : x < 0
  · rw [if_pos h0]
  · rw [if_neg h0]
    obtain ⟨j, hj, rfl⟩ := nI_of h0
    rw [iteLe (by omega) (by omega), if_pos (Nat.le_of_not_lt (fun q => hx ⟨j, q, rfl⟩))]
theorem cs_isReady {M : Mem} {o : Nat} {c : Cfg} {σ : Sg} (h : stC M o c σ) (hc : okC c) (ht : σ.1 < 1000) {i : Nat} (hi : i < c.1) : f_X0_isReady o (nI i) M = some (if rdN (c.2.1 i) σ.1 = true then 1 else 0) := by
  have hn := hc.1
  obtain ⟨a1, a2, a3, a4, a5⟩ := h.2.2 i hi
  have hk := (hc.2 i hi).1
  unfold f_X0_isReady rdN
  rw [grd_t (inb_t (by omega) (by omega)), ixn (by omega), a1, h.2.1, n2, irmN (by omega) (by omega) (by omega), n3, n0, iteEq (by omega) (by omega), iteEq (by omega) (by omega)]
  by_cases h1 : c.2.1 i = 3 <;> by_cases h2 : σ.1 % 2 = 0 <;> simp [h1, h2]
theorem cs_comesOut {M : Mem} {o : Nat} {c : Cfg} {σ : Sg} (h : stC M o c σ) (hc : okC c) (hs : okS c σ) (ht : σ.1 < 1000) {i : Nat} (hi : i < c.1) : f_X0_comesOut o (nI i) M = some (nI (outN c σ i)) := by
  have hn := hc.1
  have hw := okW hc hs hi
  obtain ⟨a1, a2, a3, a4, a5⟩ := h.2.2 i hi
  unfold f_X0_comesOut outN
  rw [cs_isReady h hc ht hi, bR_s]
  by_cases h1 : rdN (c.2.1 i) σ.1 = true
  · rw [if_pos h1, if_neg (by decide), grd_t (inb_t (by omega) (by omega)), ixn (by omega), a4, andN1 (by omega), if_pos h1]
  · rw [if_neg h1, if_pos rfl, if_neg h1]; rfl
theorem cs_isStruck {M : Mem} {o : Nat} {c : Cfg} {σ : Sg} (h : stC M o c σ) (hc : okC c) (ht : σ.1 < 1000) {i : Nat} (hi : i < c.1) : f_X0_ticksTillStruck o (nI i) M = some (nI ((c.2.2.2 i + 2 - σ.1 % (c.2.2.2 i + 2)) % (c.2.2.2 i + 2))) ∧ ∀ (a b : Option Int32), (if nI ((c.2.2.2 i + 2 - σ.1 % (c.2.2.2 i + 2)) % (c.2.2.2 i + 2)) = (0 : Int32) then a else b) = (if stk (c.2.2.2 i) σ.1 = true then a else b) := by
  have hn := hc.1
  obtain ⟨a1, a2, a3, a4, a5⟩ := h.2.2 i hi
  have hk := (hc.2 i hi).2.2.2
  have hlt : σ.1 % (c.2.2.2 i + 2) < c.2.2.2 i + 2 := Nat.mod_lt _ (by omega)
  have e1 : f_X0_ticksTillStruck o (nI i) M = some (nI ((c.2.2.2 i + 2 - σ.1 % (c.2.2.2 i + 2)) % (c.2.2.2 i + 2))) := by
    unfold f_X0_ticksTillStruck
    rw [grd_t (inb_t (by omega) (by omega)), ixn (by omega), a3, h.2.1, n2, addN, n0, iteLe (by omega) (by omega), if_neg (by omega), grd_t (nzN (by omega) (by omega)), grd_t (nzN (by omega) (by omega)), irmN (by omega) (by omega) (by omega), subN (by omega), irmN (by omega) (by omega) (by omega)]
  refine ⟨e1, fun a b => ?_⟩
  unfold stk
  have hlt2 : (c.2.2.2 i + 2 - σ.1 % (c.2.2.2 i + 2)) % (c.2.2.2 i + 2) < c.2.2.2 i + 2 := Nat.mod_lt _ (by omega)
  rw [n0, iteEq (by omega) (by omega)]
  by_cases h0 : σ.1 % (c.2.2.2 i + 2) = 0
  · have h1 : (c.2.2.2 i + 2 - σ.1 % (c.2.2.2 i + 2)) % (c.2.2.2 i + 2) = 0 := by rw [h0]; simp
    simp [h0]
  · have h1 : ¬ (c.2.2.2 i + 2 - σ.1 % (c.2.2.2 i + 2)) % (c.2.2.2 i + 2) = 0 := by
      rw [Nat.mod_eq_of_lt (by omega)]; omega
    rw [if_neg h1, if_neg (by simpa using h0)]
theorem lastN {w l : Nat} (hw : w < 512) (h2 : 2 ≤ l) (h9 : l ≤ 9) : (shr (nI w) (nI l - 1)) &&& 1 = nI (lst w l) := by
  rw [n1, subN (by omega), shrN (by omega) (by omega), ← n1, andN1 (by have := Nat.div_le_self w (2 ^ (l - 1)); omega)]
  rfl
theorem subX {x : Nat} (h : x ≤ 1) : (1 : Int32) - nI x = nI (1 - x) := by rw [n1, subN h]
theorem cs_sentAs {M : Mem} {o : Nat} {c : Cfg} {σ : Sg} (h : stC M o c σ) (hc : okC c) (hs : okS c σ) (ht : σ.1 < 1000) {i : Nat} (hi : i < c.1) {as x : Nat} (has : as ≤ 5) (hx : x ≤ 1) : f_X0_sentAs o (nI as) (nI i) (nI x) M = some (nI (snt as (c.2.2.2 i) σ.1 (σ.2.1 i) (c.2.2.1 i) x)) := by
  have hn := hc.1
  have hw := okW hc hs hi
  obtain ⟨a1, a2, a3, a4, a5⟩ := h.2.2 i hi
  obtain ⟨b1, b2, b3, b4⟩ := hc.2 i hi
  have hl := lst_le (σ.2.1 i) (c.2.2.1 i)
  unfold f_X0_sentAs
  rw [grd_t (inb_t (by omega) (by omega)), grd_t (inb_t (by omega) (by omega)), ixn (by omega), a4, a2, lastN hw b2 b3, (cs_isStruck h hc ht hi).1, h.2.1]
  simp only [jn, bR_s]
  simp only [(cs_isStruck h hc ht hi).2]
  rw [show (3 : Int32) = nI 3 from rfl, irmN (by omega) (by omega) (by omega), show (1 : Int32) - nI x = nI (1 - x) from subX hx]
  rw [show (1 : Int32) = nI 1 from rfl, show (2 : Int32) = nI 2 from rfl, show (4 : Int32) = nI 4 from rfl, show (5 : Int32) = nI 5 from rfl, show (0 : Int32) = nI 0 from rfl]
  simp only [eqN (show as < 2147483648 by omega) (show 1 < 2147483648 by omega), eqN (show as < 2147483648 by omega) (show 2 < 2147483648 by omega), eqN (show as < 2147483648 by omega) (show 3 < 2147483648 by omega), eqN (show as < 2147483648 by omega) (show 4 < 2147483648 by omega), eqN (show as < 2147483648 by omega) (show 5 < 2147483648 by omega), eqN (show lst (σ.2.1 i) (c.2.2.1 i) < 2147483648 by omega) (show 1 < 2147483648 by omega), eqN (show σ.1 % 3 < 2147483648 by omega) (show 0 < 2147483648 by omega)]
  unfold snt
  by_cases g1 : lst (σ.2.1 i) (c.2.2.1 i) = 1 <;> by_cases g2 : stk (c.2.2.2 i) σ.1 = true <;> by_cases g3 : σ.1 % 3 = 0 <;> simp only [g1, g2, g3, if_true, if_false] <;> rcases (show as = 0 ∨ as = 1 ∨ as = 2 ∨ as = 3 ∨ as = 4 ∨ as = 5 by omega) with rfl | rfl | rfl | rfl | rfl | rfl <;> first | rfl | decide | simp [nI]
