/-! what else the class's store does and tells -/
theorem cpk7 : cpk 0 0 7 7 7 = true := by decide
theorem cs_takeFrom {o o1 : Nat} (ho : (o = 22 ∧ o1 = 15) ∨ (o = 15 ∧ o1 = 22)) (M : Mem) : ∃ M', f_X0_takeFrom o o1 M = some M' ∧ (∀ j, 1 ≤ j → j ≤ 5 → ∀ i, i < 7 → M'.1 (o + j) i = M.1 (o1 + j) i) ∧ M'.1 o 6 = M.1 o1 6 ∧ M'.1 o 7 = M.1 o1 7 ∧ Fr o M M' := by
  unfold f_X0_takeFrom
  simp only [cpk7, grd_t, lt]
  refine ⟨_, rfl, ?_, ?_, ?_, ?_, ?_⟩
  · intro j h1 h5 i hi
    have e0 : ix 0 = 0 := rfl
    have e7 : ix 7 = 7 := rfl
    rcases (show j = 1 ∨ j = 2 ∨ j = 3 ∨ j = 4 ∨ j = 5 by omega) with rfl | rfl | rfl | rfl | rfl <;> rcases ho with ⟨rfl, rfl⟩ | ⟨rfl, rfl⟩ <;> simp [sI, sA, va_cpy, e0, e7, hi]
  · rcases ho with ⟨rfl, rfl⟩ | ⟨rfl, rfl⟩ <;> simp [sI, sA, upd]
  · rcases ho with ⟨rfl, rfl⟩ | ⟨rfl, rfl⟩ <;> simp [sI, sA, upd]
  · rfl
  · intro a ha
    have h0 : a ≠ o := by omega
    have h1 : a ≠ o + 1 := by omega
    have h2 : a ≠ o + 2 := by omega
    have h3 : a ≠ o + 3 := by omega
    have h4 : a ≠ o + 4 := by omega
    have h5 : a ≠ o + 5 := by omega
    simp [sI, sA, h0, h1, h2, h3, h4, h5]
theorem cs_take {o o1 : Nat} (ho : (o = 22 ∧ o1 = 15) ∨ (o = 15 ∧ o1 = 22)) {M : Mem} {c : Cfg} {σ : Sg} (hc : okC c) (h : stC M o1 c σ) : ∃ M', f_X0_takeFrom o o1 M = some M' ∧ stC M' o c σ ∧ Fr o M M' := by
  obtain ⟨M', e1, e2, e3, e4, e5⟩ := cs_takeFrom ho M
  have h7 := hc.1
  refine ⟨M', e1, ⟨e3.trans h.1, e4.trans h.2.1, fun i hi => ?_⟩, e5⟩
  obtain ⟨d1, d2, d3, d4, d5⟩ := h.2.2 i hi
  exact ⟨(e2 1 (by omega) (by omega) i (by omega)).trans d1, (e2 2 (by omega) (by omega) i (by omega)).trans d2, (e2 3 (by omega) (by omega) i (by omega)).trans d3, (e2 4 (by omega) (by omega) i (by omega)).trans d4, (e2 5 (by omega) (by omega) i (by omega)).trans d5⟩
def puI (w : Nat → Nat) : Nat → Int32
  | 0 => 0
  | i + 1 => puI w i + bcI (nI (w i))
def pI (c : Cfg) (σ : Sg) : Int32 := puI σ.2.1 c.1
theorem cs_pulsesL {M : Mem} {o : Nat} {c : Cfg} {σ : Sg} (h : stC M o c σ) (hc : okC c) : ∀ (n j : Nat), j ≤ c.1 → c.1 - j < n → f_X0_pulses_L4 o M n (puI σ.2.1 j) (nI j) = some (puI σ.2.1 c.1)
  | 0, j, _, h => by omega
  | n + 1, j, hj, hn => by
    have h7 := hc.1
    rw [f_X0_pulses_L4, h.1, iteLe (by omega) (by omega)]
    by_cases hjn : c.1 ≤ j
    · rw [if_pos hjn, show j = c.1 by omega]
    · rw [if_neg hjn, grd_t (inb_t (by omega) (by omega)), ixn (by omega), (h.2.2 j (by omega)).2.2.2.1, show nI j + 1 = nI (j + 1) from nI_1 j]
      exact cs_pulsesL h hc n (j + 1) (by omega) (by omega)
theorem cs_pulses {M : Mem} {o : Nat} {c : Cfg} {σ : Sg} (h : stC M o c σ) (hc : okC c) : f_X0_pulses o M = some (pI c σ) := by
  unfold f_X0_pulses
  obtain ⟨fu, hfu, hf2⟩ := FUx
  rw [← hfu]
  have h7 := hc.1
  exact at0 (fun x => f_X0_pulses_L4 o M fu 0 x) (cs_pulsesL h hc fu 0 (by omega) (by omega))
def emI (w : Nat → Nat) : Nat → Int32
  | 0 => 0
  | i + 1 => if w i = 0 then emI w i ||| shl 1 (nI i) else emI w i
theorem cs_emptyL {M : Mem} {o : Nat} {c : Cfg} {σ : Sg} (h : stC M o c σ) (hc : okC c) (hs : okS c σ) : ∀ (n j : Nat), j ≤ c.1 → c.1 - j < n → f_X0_emptyOnes_L4 o M n (emI σ.2.1 j) (nI j) = some (emI σ.2.1 c.1)
  | 0, j, _, h => by omega
  | n + 1, j, hj, hn => by
    have h7 := hc.1
    rw [f_X0_emptyOnes_L4, h.1, iteLe (by omega) (by omega)]
    by_cases hjn : c.1 ≤ j
    · rw [if_pos hjn, show j = c.1 by omega]
    · have hw := okW hc hs (show j < c.1 by omega)
      rw [if_neg hjn, grd_t (inb_t (by omega) (by omega)), ixn (by omega), (h.2.2 j (by omega)).2.2.2.1, show nI j + 1 = nI (j + 1) from nI_1 j]
      simp only [jn]
      have ih := cs_emptyL h hc hs n (j + 1) (by omega) (by omega)
      rw [emI] at ih
      rw [n0, iteEq (by omega) (by omega)]
      by_cases e : σ.2.1 j = 0
      · rw [if_pos e]; rw [if_pos e] at ih; exact ih
      · rw [if_neg e]; rw [if_neg e] at ih; exact ih
theorem cs_emptyOnes {M : Mem} {o : Nat} {c : Cfg} {σ : Sg} (h : stC M o c σ) (hc : okC c) (hs : okS c σ) : f_X0_emptyOnes o M = some (emI σ.2.1 c.1) := by
  unfold f_X0_emptyOnes
  obtain ⟨fu, hfu, hf2⟩ := FUx
  rw [← hfu]
  have h7 := hc.1
  exact at0 (fun x => f_X0_emptyOnes_L4 o M fu 0 x) (cs_emptyL h hc hs fu 0 (by omega) (by omega))
def slI (l : Nat → Nat) : Nat → Int32
  | 0 => 0
  | i + 1 => slI l i + nI (l i)
theorem cs_slotsL {M : Mem} {o : Nat} {c : Cfg} {σ : Sg} (h : stC M o c σ) (hc : okC c) : ∀ (n j : Nat), j ≤ c.1 → c.1 - j < n → f_X0_slots_L4 o M n (slI c.2.2.1 j) (nI j) = some (slI c.2.2.1 c.1)
  | 0, j, _, h => by omega
  | n + 1, j, hj, hn => by
    have h7 := hc.1
    rw [f_X0_slots_L4, h.1, iteLe (by omega) (by omega)]
    by_cases hjn : c.1 ≤ j
    · rw [if_pos hjn, show j = c.1 by omega]
    · rw [if_neg hjn, grd_t (inb_t (by omega) (by omega)), ixn (by omega), (h.2.2 j (by omega)).2.1, show nI j + 1 = nI (j + 1) from nI_1 j]
      exact cs_slotsL h hc n (j + 1) (by omega) (by omega)
theorem cs_slots {M : Mem} {o : Nat} {c : Cfg} {σ : Sg} (h : stC M o c σ) (hc : okC c) : f_X0_slots o M = some (slI c.2.2.1 c.1) := by
  unfold f_X0_slots
  obtain ⟨fu, hfu, hf2⟩ := FUx
  rw [← hfu]
  have h7 := hc.1
  exact at0 (fun x => f_X0_slots_L4 o M fu 0 x) (cs_slotsL h hc fu 0 (by omega) (by omega))
def isN (k a : Nat) : Bool := decide (k = a ∨ (a = 1 ∧ k = 4) ∨ (a = 2 ∧ k = 5))
theorem cs_isOf {M : Mem} {o : Nat} {c : Cfg} {σ : Sg} (h : stC M o c σ) (hc : okC c) {i a : Nat} (hi : i < c.1) (ha : a ≤ 5) : f_X0_isOf o (nI i) (nI a) M = some (if isN (c.2.1 i) a = true then 1 else 0) := by
  have h7 := hc.1
  have hk := (hc.2 i hi).1
  unfold f_X0_isOf isN
  rw [grd_t (inb_t (by omega) (by omega)), ixn (by omega), (h.2.2 i hi).1]
  simp only [jn]
  rw [show (1 : Int32) = nI 1 from rfl, show (2 : Int32) = nI 2 from rfl, show (4 : Int32) = nI 4 from rfl, show (5 : Int32) = nI 5 from rfl]
  simp only [eqN (show c.2.1 i < 2147483648 by omega) (show a < 2147483648 by omega), eqN (show c.2.1 i < 2147483648 by omega) (show 4 < 2147483648 by omega), eqN (show c.2.1 i < 2147483648 by omega) (show 5 < 2147483648 by omega), eqN (show a < 2147483648 by omega) (show 1 < 2147483648 by omega), eqN (show a < 2147483648 by omega) (show 2 < 2147483648 by omega)]
  generalize c.2.1 i = kk at hk ⊢
  rcases (show kk = 0 ∨ kk = 1 ∨ kk = 2 ∨ kk = 3 ∨ kk = 4 ∨ kk = 5 by omega) with rfl | rfl | rfl | rfl | rfl | rfl <;> rcases (show a = 0 ∨ a = 1 ∨ a = 2 ∨ a = 3 ∨ a = 4 ∨ a = 5 by omega) with rfl | rfl | rfl | rfl | rfl | rfl <;> rfl
def moI (a : Nat) (k : Nat → Nat) : Nat → Int32
  | 0 => 0
  | i + 1 => if isN (k i) a = true then moI a k i + 1 else moI a k i
theorem cs_manyL {M : Mem} {o : Nat} {c : Cfg} {σ : Sg} (h : stC M o c σ) (hc : okC c) {a : Nat} (ha : a ≤ 5) : ∀ (n j : Nat), j ≤ c.1 → c.1 - j < n → f_X0_manyOf_L4 o (nI a) M n (moI a c.2.1 j) (nI j) = some (moI a c.2.1 c.1)
  | 0, j, _, h => by omega
  | n + 1, j, hj, hn => by
    have h7 := hc.1
    rw [f_X0_manyOf_L4, h.1, iteLe (by omega) (by omega)]
    by_cases hjn : c.1 ≤ j
    · rw [if_pos hjn, show j = c.1 by omega]
    · rw [if_neg hjn, cs_isOf h hc (show j < c.1 by omega) ha, bR_s, show nI j + 1 = nI (j + 1) from nI_1 j]
      simp only [jn]
      have ih := cs_manyL h hc ha n (j + 1) (by omega) (by omega)
      rw [moI] at ih
      by_cases e : isN (c.2.1 j) a = true
      · rw [if_pos e, if_neg (by decide)]; rw [if_pos e] at ih; exact ih
      · rw [if_neg e, if_pos rfl]; rw [if_neg e] at ih; exact ih
theorem cs_manyOf {M : Mem} {o : Nat} {c : Cfg} {σ : Sg} (h : stC M o c σ) (hc : okC c) {a : Nat} (ha : a ≤ 5) : f_X0_manyOf o (nI a) M = some (moI a c.2.1 c.1) := by
  unfold f_X0_manyOf
  obtain ⟨fu, hfu, hf2⟩ := FUx
  rw [← hfu]
  have h7 := hc.1
  exact at0 (fun x => f_X0_manyOf_L4 o (nI a) M fu 0 x) (cs_manyL h hc ha fu 0 (by omega) (by omega))
theorem cs_cameL {M : Mem} {o : Nat} {c : Cfg} {σ : Sg} (h : stC M o c σ) (hc : okC c) (hs : okS c σ) {i : Nat} (hi : i < c.1) (K : Int32 → Option Int32) : ∀ (n j : Nat), j ≤ frN σ.2.2 i c.1 → c.1 - j < n → f_X0_cameTo_L2 o (nI i) M K n (nI j) = K (nI (frN σ.2.2 i c.1))
  | 0, j, _, h => by omega
  | n + 1, j, hj, hn => by
    have h7 := hc.1
    obtain ⟨q1, q2⟩ := okFr hs hi
    have hw := (hs.1 j (by omega)).2
    rw [f_X0_cameTo_L2, h.1, iteLe (by omega) (by omega), if_neg (by omega), grd_t (inb_t (by omega) (by omega)), ixn (by omega), (h.2.2 j (by omega)).2.2.2.2, iteEq (by omega) (by omega)]
    by_cases e : σ.2.2 j = i
    · rw [if_pos e, hs.2 j (frN σ.2.2 i c.1) (by omega) q1 (e.trans q2.symm)]
    · rw [if_neg e, show nI j + 1 = nI (j + 1) from nI_1 j]
      have hne : j ≠ frN σ.2.2 i c.1 := fun z => e (by rw [z]; exact q2)
      exact cs_cameL h hc hs hi K n (j + 1) (by omega) (by omega)
def inN (c : Cfg) (σ : Sg) (i : Nat) : Nat := outN c σ (frN σ.2.2 i c.1)
theorem inN_le (c : Cfg) (σ : Sg) (i : Nat) : inN c σ i ≤ 1 := outN_le _ _ _
theorem cs_cameTo {M : Mem} {o : Nat} {c : Cfg} {σ : Sg} (h : stC M o c σ) (hc : okC c) (hs : okS c σ) (ht : σ.1 < 1000) {i : Nat} (hi : i < c.1) : f_X0_cameTo o (nI i) M = some (nI (inN c σ i)) := by
  have h7 := hc.1
  unfold f_X0_cameTo
  obtain ⟨fu, hfu, hf2⟩ := FUx
  rw [← hfu]
  simp only [jn]
  refine (at0 (fun x => f_X0_cameTo_L2 o (nI i) M _ fu x) (cs_cameL h hc hs hi _ fu 0 (by omega) (by omega))).trans ?_
  show bR (f_X0_comesOut o (nI (frN σ.2.2 i c.1)) M) _ = _
  rw [cs_comesOut h hc hs ht (okFr hs hi).1, bR_s]
  rfl
def sN (c : Cfg) (σ : Sg) (i as x : Nat) : Nat := snt as (c.2.2.2 i) σ.1 (σ.2.1 i) (c.2.2.1 i) x
theorem sN_le {c : Cfg} {σ : Sg} {i as x : Nat} (h : x ≤ 1) : sN c σ i as x ≤ 1 := snt_le h
def tlN (c : Cfg) (σ : Sg) (i a : Nat) : Nat := if a = 1 then (c.2.2.2 i + 2 - σ.1 % (c.2.2.2 i + 2)) % (c.2.2.2 i + 2) else if a = 2 then (if sN c σ i (c.2.1 i) 1 = sN c σ i (c.2.1 i) 0 then 1 else 0) else if a = 3 then 2 * c.2.2.1 i else if a = 4 then (if sN c σ i 4 (inN c σ i) = sN c σ i 1 (inN c σ i) then 0 else 1) else (if sN c σ i 5 (inN c σ i) = sN c σ i 2 (inN c σ i) then 0 else 1)
theorem bit_if {c : Prop} [Decidable c] {a b : Nat} : (if c then some (nI a) else some (nI b)) = some (nI (if c then a else b)) := by split <;> rfl
theorem cs_tells {M : Mem} {o : Nat} {c : Cfg} {σ : Sg} (h : stC M o c σ) (hc : okC c) (hs : okS c σ) (ht : σ.1 < 1000) {i a : Nat} (hi : i < c.1) (ha : a ≤ 5) : f_X0_tells o (nI i) (nI a) M = some (nI (tlN c σ i a)) := by
  have h7 := hc.1
  obtain ⟨b1, b2, b3, b4⟩ := hc.2 i hi
  obtain ⟨a1, a2, a3, a4, a5⟩ := h.2.2 i hi
  have hx := inN_le c σ i
  unfold f_X0_tells tlN
  have e1 : f_X0_sentAs o (nI (c.2.1 i)) (nI i) 1 M = some (nI (sN c σ i (c.2.1 i) 1)) := cs_sentAs h hc hs ht hi b1 (x := 1) (by omega)
  have e2 : f_X0_sentAs o (nI (c.2.1 i)) (nI i) 0 M = some (nI (sN c σ i (c.2.1 i) 0)) := cs_sentAs h hc hs ht hi b1 (x := 0) (by omega)
  have e3 : f_X0_sentAs o 4 (nI i) (nI (inN c σ i)) M = some (nI (sN c σ i 4 (inN c σ i))) := cs_sentAs h hc hs ht hi (as := 4) (by omega) hx
  have e4 : f_X0_sentAs o 1 (nI i) (nI (inN c σ i)) M = some (nI (sN c σ i 1 (inN c σ i))) := cs_sentAs h hc hs ht hi (as := 1) (by omega) hx
  have e5 : f_X0_sentAs o 5 (nI i) (nI (inN c σ i)) M = some (nI (sN c σ i 5 (inN c σ i))) := cs_sentAs h hc hs ht hi (as := 5) (by omega) hx
  have e6 : f_X0_sentAs o 2 (nI i) (nI (inN c σ i)) M = some (nI (sN c σ i 2 (inN c σ i))) := cs_sentAs h hc hs ht hi (as := 2) (by omega) hx
  simp only [cs_cameTo h hc hs ht hi, bR_s, (cs_isStruck h hc ht hi).1, grd_t (inb_t (show i < 7 by omega) (by omega)), ixn (show i < 2147483648 by omega), a1, a2, e1, e2, e3, e4, e5, e6]
  have l1 : ∀ as x, x ≤ 1 → sN c σ i as x < 2147483648 := fun as x hx => by have := @sN_le c σ i as x hx; omega
  rw [show (2 : Int32) * nI (c.2.2.1 i) = nI (2 * c.2.2.1 i) from mulN 2 _, iteEq (l1 _ _ (by omega)) (l1 _ _ (by omega)), iteEq (l1 _ _ hx) (l1 _ _ hx), iteEq (l1 _ _ hx) (l1 _ _ hx), show (1 : Int32) = nI 1 from rfl, show (2 : Int32) = nI 2 from rfl, show (3 : Int32) = nI 3 from rfl, show (4 : Int32) = nI 4 from rfl, show (0 : Int32) = nI 0 from rfl, bit_if, bit_if, bit_if, iteEq (by omega) (by omega), iteEq (by omega) (by omega), iteEq (by omega) (by omega), iteEq (by omega) (by omega), bit_if, bit_if, bit_if, bit_if]
def fcN (c : Cfg) (σ : Sg) (i a : Nat) : Nat := if a = 0 then c.2.1 i else if a = 1 then c.2.2.1 i else if a = 2 then c.2.2.2 i else if a = 3 then σ.2.1 i else if a = 4 then σ.2.2 i else if a = 5 then (if rdN (c.2.1 i) σ.1 = true then 1 else 0) else sN c σ i (c.2.1 i) (inN c σ i)
theorem cs_fact {M : Mem} {o : Nat} {c : Cfg} {σ : Sg} (h : stC M o c σ) (hc : okC c) (hs : okS c σ) (ht : σ.1 < 1000) {i a : Nat} (hi : i < c.1) (ha : a ≤ 6) : f_X0_fact o (nI i) (nI a) M = some (nI (fcN c σ i a)) := by
  have h7 := hc.1
  obtain ⟨b1, b2, b3, b4⟩ := hc.2 i hi
  obtain ⟨a1, a2, a3, a4, a5⟩ := h.2.2 i hi
  have hx := inN_le c σ i
  unfold f_X0_fact fcN
  simp only [grd_t (inb_t (show i < 7 by omega) (by omega)), ixn (show i < 2147483648 by omega), a1, a2, a3, a4, a5, cs_isReady h hc ht hi, cs_cameTo h hc hs ht hi, bR_s, cs_sentAs h hc hs ht hi b1 hx]
  have e : (if (if rdN (c.2.1 i) σ.1 = true then (1 : Int32) else 0) = 0 then (some 0 : Option Int32) else some 1) = some (nI (if rdN (c.2.1 i) σ.1 = true then 1 else 0)) := by
    by_cases g : rdN (c.2.1 i) σ.1 = true
    · rw [if_pos g, if_pos g, if_neg (by decide)]; rfl
    · rw [if_neg g, if_neg g, if_pos rfl]; rfl
  rw [e, show (0 : Int32) = nI 0 from rfl, show (1 : Int32) = nI 1 from rfl, show (2 : Int32) = nI 2 from rfl, show (3 : Int32) = nI 3 from rfl, show (4 : Int32) = nI 4 from rfl, show (5 : Int32) = nI 5 from rfl, iteEq (by omega) (by omega), iteEq (by omega) (by omega), iteEq (by omega) (by omega), iteEq (by omega) (by omega), iteEq (by omega) (by omega), iteEq (by omega) (by omega)]
  repeat' split
  all_goals rfl
