/-! what the reference's store does and tells -/
def bl : Nat → Int32 → Int32 → Option Int32
  | 0, _, _ => none
  | n + 1, a, b => if b = 0 then some a else bl n (a + 1) (b &&& (b - 1))
theorem bl_eq (M : Mem) : ∀ (n : Nat) (a b : Int32), f_X2_bits_L4 M n a b = bl n a b
  | 0, _, _ => rfl
  | n + 1, a, b => by rw [f_X2_bits_L4, bl, bl_eq M n]
theorem bl_mono : ∀ (n k : Nat) (a b r : Int32), bl n a b = some r → bl (n + k) a b = some r
  | 0, k, a, b, r, h => by cases h
  | n + 1, k, a, b, r, h => by
    rw [show n + 1 + k = (n + k) + 1 by omega, bl]
    rw [bl] at h
    by_cases e : b = 0
    · rw [if_pos e]; rw [if_pos e] at h; exact h
    · rw [if_neg e]; rw [if_neg e] at h; exact bl_mono n k _ _ r h
theorem bl_512 : ∀ w, w < 512 → bl 10 0 (nI w) = some (bcI (nI w)) := by decide +kernel
theorem ms_bits (M : Mem) {w : Nat} (hw : w < 512) : f_X2_bits (nI w) M = some (bcI (nI w)) := by
  unfold f_X2_bits
  obtain ⟨fu, hfu, hf2⟩ := FUx
  rw [← hfu, bl_eq, show fu = 10 + (fu - 10) by omega]
  exact bl_mono 10 _ _ _ _ (bl_512 w hw)
theorem ms_pulsesL {M : Mem} {k : Nat} {c : Cfg} {σ : Sg} (h : stM M k c σ) (hc : okC c) (hs : okS c σ) : ∀ (n j : Nat), j ≤ c.1 → c.1 - j < n → f_X2_pulses_L4 k 15 M n (puI σ.2.1 j) (nI j) = some (puI σ.2.1 c.1)
  | 0, j, _, h => by omega
  | n + 1, j, hj, hn => by
    have h7 := hc.1
    rw [f_X2_pulses_L4, h.1, iteLe (by omega) (by omega)]
    by_cases hjn : c.1 ≤ j
    · rw [if_pos hjn, show j = c.1 by omega]
    · rw [if_neg hjn, show (1 : Int32) + nI j = nI (1 + j) from addN 1 j, grd_t (inb_t (by omega) (by omega)), ixn (by omega), (h.2.2 j (by omega)).2.2.2.1, ms_bits M (okW hc hs (by omega)), bR_s, show nI j + 1 = nI (j + 1) from nI_1 j]
      exact ms_pulsesL h hc hs n (j + 1) (by omega) (by omega)
theorem ms_pulses {M : Mem} {k : Nat} {c : Cfg} {σ : Sg} (h : stM M k c σ) (hc : okC c) (hs : okS c σ) : f_X2_pulses k 15 M = some (pI c σ) := by
  unfold f_X2_pulses
  obtain ⟨fu, hfu, hf2⟩ := FUx
  rw [← hfu]
  have h7 := hc.1
  exact at0 (fun x => f_X2_pulses_L4 k 15 M fu 0 x) (ms_pulsesL h hc hs fu 0 (by omega) (by omega))
theorem ms_emptyL {M : Mem} {c : Cfg} {σ : Sg} (h : stM M 8 c σ) (hc : okC c) (hs : okS c σ) : ∀ (n j : Nat), j ≤ c.1 → c.1 - j < n → f_X2_empties_L4 M n (emI σ.2.1 j) (nI j) = some (emI σ.2.1 c.1)
  | 0, j, _, h => by omega
  | n + 1, j, hj, hn => by
    have h7 := hc.1
    rw [f_X2_empties_L4, h.1, iteLe (by omega) (by omega)]
    by_cases hjn : c.1 ≤ j
    · rw [if_pos hjn, show j = c.1 by omega]
    · have hw := okW hc hs (show j < c.1 by omega)
      rw [if_neg hjn, show (1 : Int32) + nI j = nI (1 + j) from addN 1 j, grd_t (inb_t (by omega) (by omega)), ixn (by omega), (h.2.2 j (by omega)).2.2.2.1, show nI j + 1 = nI (j + 1) from nI_1 j]
      simp only [jn]
      have ih := ms_emptyL h hc hs n (j + 1) (by omega) (by omega)
      rw [emI] at ih
      rw [show (σ.2.1 j) = σ.2.1 j from rfl]
      by_cases e : σ.2.1 j = 0
      · rw [if_pos (show nI (σ.2.1 j) = 0 by rw [e]; rfl)]; rw [if_pos e] at ih; exact ih
      · rw [if_neg (show ¬ nI (σ.2.1 j) = 0 from fun q => e ((nI_eq (by omega) (by omega)).mp (show nI (σ.2.1 j) = nI 0 from q))), Int32.or_zero]; rw [if_neg e] at ih; exact ih
theorem ms_empties {M : Mem} {c : Cfg} {σ : Sg} (h : stM M 8 c σ) (hc : okC c) (hs : okS c σ) : f_X2_empties M = some (emI σ.2.1 c.1) := by
  unfold f_X2_empties
  obtain ⟨fu, hfu, hf2⟩ := FUx
  rw [← hfu]
  have h7 := hc.1
  exact at0 (fun x => f_X2_empties_L4 M fu 0 x) (ms_emptyL h hc hs fu 0 (by omega) (by omega))
theorem ms_slotsL {M : Mem} {c : Cfg} {σ : Sg} (h : stM M 8 c σ) (hc : okC c) : ∀ (n j : Nat), j ≤ c.1 → c.1 - j < n → f_X2_slots_L4 M n (slI c.2.2.1 j) (nI j) = some (slI c.2.2.1 c.1)
  | 0, j, _, h => by omega
  | n + 1, j, hj, hn => by
    have h7 := hc.1
    rw [f_X2_slots_L4, h.1, iteLe (by omega) (by omega)]
    by_cases hjn : c.1 ≤ j
    · rw [if_pos hjn, show j = c.1 by omega]
    · rw [if_neg hjn, grd_t (inb_t (by omega) (by omega)), ixn (by omega), (h.2.2 j (by omega)).2.1, show nI j + 1 = nI (j + 1) from nI_1 j]
      exact ms_slotsL h hc n (j + 1) (by omega) (by omega)
theorem ms_slots {M : Mem} {c : Cfg} {σ : Sg} (h : stM M 8 c σ) (hc : okC c) : f_X2_slots M = some (slI c.2.2.1 c.1) := by
  unfold f_X2_slots
  obtain ⟨fu, hfu, hf2⟩ := FUx
  rw [← hfu]
  have h7 := hc.1
  exact at0 (fun x => f_X2_slots_L4 M fu 0 x) (ms_slotsL h hc fu 0 (by omega) (by omega))
theorem ms_isA {M : Mem} {k : Nat} {c : Cfg} {σ : Sg} (h : stM M k c σ) (hc : okC c) {i a : Nat} (hi : i < c.1) (ha : a ≤ 5) : f_X2_isA (nI i) (nI a) M = some (if isN (c.2.1 i) a = true then 1 else 0) := by
  have h7 := hc.1
  have hk := (hc.2 i hi).1
  unfold f_X2_isA isN
  simp only [grd_t (inb_t (show i < 7 by omega) (by omega)), ixn (show i < 2147483648 by omega), (h.2.2 i hi).1, jn]
  rw [show (1 : Int32) = nI 1 from rfl, show (2 : Int32) = nI 2 from rfl, show (4 : Int32) = nI 4 from rfl, show (5 : Int32) = nI 5 from rfl]
  simp only [eqN (show c.2.1 i < 2147483648 by omega) (show a < 2147483648 by omega), eqN (show c.2.1 i < 2147483648 by omega) (show 4 < 2147483648 by omega), eqN (show c.2.1 i < 2147483648 by omega) (show 5 < 2147483648 by omega), eqN (show a < 2147483648 by omega) (show 1 < 2147483648 by omega), eqN (show a < 2147483648 by omega) (show 2 < 2147483648 by omega)]
  generalize c.2.1 i = kk at hk ⊢
  rcases (show kk = 0 ∨ kk = 1 ∨ kk = 2 ∨ kk = 3 ∨ kk = 4 ∨ kk = 5 by omega) with rfl | rfl | rfl | rfl | rfl | rfl <;> rcases (show a = 0 ∨ a = 1 ∨ a = 2 ∨ a = 3 ∨ a = 4 ∨ a = 5 by omega) with rfl | rfl | rfl | rfl | rfl | rfl <;> rfl
theorem ms_thoseL {M : Mem} {c : Cfg} {σ : Sg} (h : stM M 8 c σ) (hc : okC c) {a : Nat} (ha : a ≤ 5) : ∀ (n j : Nat), j ≤ c.1 → c.1 - j < n → f_X2_those_L4 (nI a) M n (moI a c.2.1 j) (nI j) = some (moI a c.2.1 c.1)
  | 0, j, _, h => by omega
  | n + 1, j, hj, hn => by
    have h7 := hc.1
    rw [f_X2_those_L4, h.1, iteLe (by omega) (by omega)]
    by_cases hjn : c.1 ≤ j
    · rw [if_pos hjn, show j = c.1 by omega]
    · rw [if_neg hjn, ms_isA h hc (show j < c.1 by omega) ha, bR_s, show nI j + 1 = nI (j + 1) from nI_1 j]
      simp only [jn]
      have ih := ms_thoseL h hc ha n (j + 1) (by omega) (by omega)
      rw [moI] at ih
      by_cases e : isN (c.2.1 j) a = true
      · rw [if_pos e, if_neg (by decide)]; rw [if_pos e] at ih; exact ih
      · rw [if_neg e, if_pos rfl, Int32.add_zero]; rw [if_neg e] at ih; exact ih
theorem ms_those {M : Mem} {c : Cfg} {σ : Sg} (h : stM M 8 c σ) (hc : okC c) {a : Nat} (ha : a ≤ 5) : f_X2_those (nI a) M = some (moI a c.2.1 c.1) := by
  unfold f_X2_those
  obtain ⟨fu, hfu, hf2⟩ := FUx
  rw [← hfu]
  have h7 := hc.1
  exact at0 (fun x => f_X2_those_L4 (nI a) M fu 0 x) (ms_thoseL h hc ha fu 0 (by omega) (by omega))
theorem ms_sentNow {M : Mem} {c : Cfg} {σ : Sg} (h : stM M 8 c σ) (hc : okC c) (hs : okS c σ) (ht : σ.1 < 1000) {i as : Nat} (hi : i < c.1) (has : as ≤ 5) : f_X2_sentNow (nI i) (nI as) M = some (nI (sN c σ i as (inN c σ i))) := by
  unfold f_X2_sentNow
  rw [ms_fromWhich h hc hs hi, bR_s, ms_outOf h hc hs ht (okFr hs hi).1, bR_s, ms_sentBy h hc hs ht hi has (outN_le _ _ _), bR_s]
  rfl
theorem ms_swapped {M : Mem} {k : Nat} (hk : k = 8 ∨ k = 9) {c : Cfg} {σ : Sg} (h : stM M k c σ) (hc : okC c) {i j : Nat} (hi : i < c.1) (hj : j < c.1) : ∃ M', f_X2_swapped k 15 (nI i) (nI j) M = some M' ∧ stM M' k c (wayN σ i j) ∧ FrM k M M' := by
  have h7 := hc.1
  unfold f_X2_swapped
  simp only [show (8 : Int32) + nI i = nI (8 + i) from addN 8 i, show (8 : Int32) + nI j = nI (8 + j) from addN 8 j, grd_t (inb_t (show 8 + i < 15 by omega) (by omega)), grd_t (inb_t (show 8 + j < 15 by omega) (by omega)), ixn (show 8 + i < 2147483648 by omega), ixn (show 8 + j < 2147483648 by omega), lt]
  refine ⟨_, rfl, ⟨?_, ?_, fun x hx => ?_⟩, rfl, fun a ha _ => ?_⟩
  · rw [sI_n _ _ _ _ (by omega), sI_n _ _ _ _ (by omega)]; exact h.1
  · rw [sI_1, sI_1, upd_ne _ _ (by omega), upd_ne _ _ (by omega)]; exact h.2.1
  · obtain ⟨d1, d2, d3, d4, d5⟩ := h.2.2 x hx
    refine ⟨by rw [sI_n _ _ _ _ (by omega), sI_n _ _ _ _ (by omega)]; exact d1, by rw [sI_n _ _ _ _ (by omega), sI_n _ _ _ _ (by omega)]; exact d2, by rw [sI_n _ _ _ _ (by omega), sI_n _ _ _ _ (by omega)]; exact d3, by rw [sI_1, sI_1, upd_ne _ _ (by omega), upd_ne _ _ (by omega)]; exact d4, ?_⟩
    rw [sI_1, sI_1]
    show _ = nI (if x = j then σ.2.2 i else if x = i then σ.2.2 j else σ.2.2 x)
    by_cases e : x = j
    · rw [if_pos e, e, upd_same]; exact (h.2.2 i hi).2.2.2.2
    · rw [if_neg e, upd_ne _ _ (by omega)]
      by_cases g : x = i
      · rw [if_pos g, g, upd_same]; exact (h.2.2 j hj).2.2.2.2
      · rw [if_neg g, upd_ne _ _ (by omega)]; exact d5
  · rw [sI_n _ _ _ _ ha, sI_n _ _ _ _ ha]
theorem stM_ext {M : Mem} {k : Nat} {c : Cfg} {σ τ : Sg} (h : stM M k c σ) (ht : σ.1 = τ.1) (hw : ∀ i, i < c.1 → σ.2.1 i = τ.2.1 i) (hy : ∀ i, i < c.1 → σ.2.2 i = τ.2.2 i) : stM M k c τ := by
  refine ⟨h.1, by rw [← ht]; exact h.2.1, fun i hi => ?_⟩
  rw [← hw i hi, ← hy i hi]
  exact h.2.2 i hi
theorem stM_sw {M : Mem} {k : Nat} (hk : k = 8 ∨ k = 9) {c : Cfg} {σ : Sg} (hc : okC c) (h : stM M k c σ) {i : Nat} (hi : i < c.1) (v : Nat) : stM (sI M k (1 + i) (nI v)) k c (swN σ i v) := by
  have h7 := hc.1
  refine ⟨by rw [sI_n _ _ _ _ (by omega)]; exact h.1, by rw [sI_1, upd_ne _ _ (by omega)]; exact h.2.1, fun x hx => ?_⟩
  obtain ⟨d1, d2, d3, d4, d5⟩ := h.2.2 x hx
  refine ⟨by rw [sI_n _ _ _ _ (by omega)]; exact d1, by rw [sI_n _ _ _ _ (by omega)]; exact d2, by rw [sI_n _ _ _ _ (by omega)]; exact d3, ?_, by rw [sI_1, upd_ne _ _ (by omega)]; exact d5⟩
  rw [sI_1]
  show _ = nI (if x = i then v else σ.2.1 x)
  by_cases e : x = i
  · rw [if_pos e, e, upd_same]
  · rw [if_neg e, upd_ne _ _ (by omega)]; exact d4
theorem ms_isWord {M : Mem} {k : Nat} {c : Cfg} {σ : Sg} (h : stM M k c σ) (hc : okC c) {i v : Nat} (hi : i < c.1) (hv : v < 2147483648) : f_X2_isWord (nI i) (nI v) M = some (if v < 2 ^ c.2.2.1 i then 1 else 0) := by
  have h7 := hc.1
  obtain ⟨b1, b2, b3, b4⟩ := hc.2 i hi
  unfold f_X2_isWord
  rw [if_neg (nI_pos hv), grd_t (inb_t (by omega) (by omega)), ixn (by omega), (h.2.2 i hi).2.1, shrN (by omega) (by omega), show (0 : Int32) = nI 0 from rfl, iteEq (by have := Nat.div_le_self v (2 ^ c.2.2.1 i); omega) (by omega)]
  by_cases e : v < 2 ^ c.2.2.1 i
  · rw [if_pos (Nat.div_eq_of_lt e), if_pos e]
  · rw [if_neg (fun q => e ((Nat.div_eq_zero_iff.mp q).elim (fun z => absurd z (Nat.ne_of_gt (Nat.two_pow_pos _))) id)), if_neg e]
theorem ms_isWordN {M : Mem} {i x : Int32} (hx : x < 0) : f_X2_isWord i x M = some 0 := by
  unfold f_X2_isWord
  rw [if_pos hx]
theorem inY {v a b : Int32} {M : Mem} (h1 : ¬ v < a) (h2 : ¬ b < v) : f_X2_in v a b M = some 1 ∧ f_X1_isWithin v a b M = some 1 := by
  unfold f_X2_in f_X1_isWithin
  rw [if_neg h1, if_neg h2]; exact ⟨rfl, rfl⟩
theorem inNo {v a b : Int32} {M : Mem} (h : v < a ∨ b < v) : f_X2_in v a b M = some 0 ∧ f_X1_isWithin v a b M = some 0 := by
  unfold f_X2_in f_X1_isWithin
  by_cases e : v < a
  · rw [if_pos e]; exact ⟨rfl, rfl⟩
  · rw [if_neg e, if_pos (h.resolve_left e)]; exact ⟨rfl, rfl⟩
theorem ms_isTube {M : Mem} {k : Nat} {c : Cfg} {σ : Sg} (h : stM M k c σ) (hc : okC c) {i : Nat} (hi : i < c.1) : f_X2_isTube (nI i) M = some 1 := by
  have h7 := hc.1
  unfold f_X2_isTube
  rw [h.1, n1, subN (by omega), (inY (nI_pos (by omega)) (nI_nlt (by omega) (by omega))).1, bR_s]; rfl
theorem ms_isTubeN {M : Mem} {k : Nat} {c : Cfg} {σ : Sg} (h : stM M k c σ) (hc : okC c) {x : Int32} (hx : ¬ ∃ i, i < c.1 ∧ x = nI i) : f_X2_isTube x M = some 0 := by
  have h7 := hc.1
  unfold f_X2_isTube
  rw [h.1, (inNo ?_).1, bR_s]; rfl
  by_cases h0 : x < 0
  · exact Or.inl h0
  · obtain ⟨j, hj, rfl⟩ := nI_of h0
    right
    by_cases e : c.1 = 0
    · rw [e]
      have h1 : (nI 0 - 1 : Int32) < 0 := by decide
      have h2 := nI_pos' hj
      exact Int32.lt_of_lt_of_le h1 h2
    · rw [n1, subN (by omega)]
      exact nI_lt (by have : ¬ j < c.1 := fun q => hx ⟨j, q, rfl⟩; omega) (by omega)
