/-! the reference's tick -/
theorem in0 {n : Nat} (h : 0 < n) (hn : n < 2147483648) : inb 0 n = true := by rw [n0]; exact inb_t h hn
theorem ix0 : ix 0 = 0 := rfl
theorem g15 {α : Type} (x : Option α) : grd (inb 0 15) x = x := grd_t (in0 (by omega) (by omega))
theorem ms_isReady {M : Mem} {k : Nat} {c : Cfg} {σ : Sg} (h : stM M k c σ) (hc : okC c) (ht : σ.1 < 1000) {i : Nat} (hi : i < c.1) : f_X2_isReady k 15 (nI i) M = some (if rdN (c.2.1 i) σ.1 = true then 1 else 0) := by
  have hn := hc.1
  obtain ⟨a1, a2, a3, a4, a5⟩ := h.2.2 i hi
  have hk := (hc.2 i hi).1
  unfold f_X2_isReady rdN
  rw [grd_t (inb_t (by omega) (by omega)), ixn (by omega), a1, grd_t (in0 (by omega) (by omega)), ix0, h.2.1, n2, irmN (by omega) (by omega) (by omega), n3, n0, iteEq (by omega) (by omega), iteEq (by omega) (by omega)]
  by_cases h1 : c.2.1 i = 3 <;> by_cases h2 : σ.1 % 2 = 0 <;> simp [h1, h2]
theorem ms_isMarked {M : Mem} {k : Nat} {c : Cfg} {σ : Sg} (h : stM M k c σ) (hc : okC c) (ht : σ.1 < 1000) {i : Nat} (hi : i < c.1) : f_X2_isMarked k 15 (nI i) M = some (if stk (c.2.2.2 i) σ.1 = true then 1 else 0) := by
  have hn := hc.1
  obtain ⟨a1, a2, a3, a4, a5⟩ := h.2.2 i hi
  have hk := (hc.2 i hi).2.2.2
  have hlt : σ.1 % (c.2.2.2 i + 2) < c.2.2.2 i + 2 := Nat.mod_lt _ (by omega)
  unfold f_X2_isMarked stk
  rw [grd_t (in0 (by omega) (by omega)), grd_t (inb_t (by omega) (by omega)), ixn (by omega), a3, n2, addN, grd_t (nzN (by omega) (by omega)), ix0, h.2.1, irmN (by omega) (by omega) (by omega), n0, iteEq (by omega) (by omega)]
  by_cases h0 : σ.1 % (c.2.2.2 i + 2) = 0 <;> simp [h0]
theorem ms_sentBy {M : Mem} {k : Nat} {c : Cfg} {σ : Sg} (h : stM M k c σ) (hc : okC c) (hs : okS c σ) (ht : σ.1 < 1000) {i : Nat} (hi : i < c.1) {as x : Nat} (has : as ≤ 5) (hx : x ≤ 1) : f_X2_sentBy k 15 (nI i) (nI as) (nI x) M = some (nI (snt as (c.2.2.2 i) σ.1 (σ.2.1 i) (c.2.2.1 i) x)) := by
  have hn := hc.1
  have hw := okW hc hs hi
  obtain ⟨a1, a2, a3, a4, a5⟩ := h.2.2 i hi
  obtain ⟨b1, b2, b3, b4⟩ := hc.2 i hi
  have hl := lst_le (σ.2.1 i) (c.2.2.1 i)
  unfold f_X2_sentBy
  rw [show (1 : Int32) + nI i = nI (1 + i) from addN 1 i, grd_t (inb_t (by omega) (by omega)), grd_t (inb_t (by omega) (by omega)), ixn (by omega), ixn (by omega), a4, a2, lastN hw b2 b3, ms_isMarked h hc ht hi, ix0, h.2.1]
  simp only [jn, bR_s, g15]
  rw [show (3 : Int32) = nI 3 from rfl, irmN (by omega) (by omega) (by omega), show (1 : Int32) - nI x = nI (1 - x) from subX hx]
  rw [show (1 : Int32) = nI 1 from rfl, show (2 : Int32) = nI 2 from rfl, show (4 : Int32) = nI 4 from rfl, show (5 : Int32) = nI 5 from rfl, show (0 : Int32) = nI 0 from rfl]
  simp only [eqN (show as < 2147483648 by omega) (show 1 < 2147483648 by omega), eqN (show as < 2147483648 by omega) (show 2 < 2147483648 by omega), eqN (show as < 2147483648 by omega) (show 3 < 2147483648 by omega), eqN (show as < 2147483648 by omega) (show 4 < 2147483648 by omega), eqN (show as < 2147483648 by omega) (show 5 < 2147483648 by omega), eqN (show lst (σ.2.1 i) (c.2.2.1 i) < 2147483648 by omega) (show 1 < 2147483648 by omega), eqN (show lst (σ.2.1 i) (c.2.2.1 i) < 2147483648 by omega) (show 0 < 2147483648 by omega), eqN (show σ.1 % 3 < 2147483648 by omega) (show 0 < 2147483648 by omega)]
  unfold snt
  rcases (show lst (σ.2.1 i) (c.2.2.1 i) = 0 ∨ lst (σ.2.1 i) (c.2.2.1 i) = 1 by omega) with g1 | g1 <;> by_cases g2 : stk (c.2.2.2 i) σ.1 = true <;> by_cases g3 : σ.1 % 3 = 0 <;> simp only [g1, g2, g3, if_true, if_false] <;> rcases (show as = 0 ∨ as = 1 ∨ as = 2 ∨ as = 3 ∨ as = 4 ∨ as = 5 by omega) with rfl | rfl | rfl | rfl | rfl | rfl <;> first | rfl | decide | simp [nI]
theorem ms_outOf {M : Mem} {k : Nat} {c : Cfg} {σ : Sg} (h : stM M k c σ) (hc : okC c) (hs : okS c σ) (ht : σ.1 < 1000) {i : Nat} (hi : i < c.1) : f_X2_outOf k 15 (nI i) M = some (nI (outN c σ i)) := by
  have hn := hc.1
  have hw := okW hc hs hi
  obtain ⟨a1, a2, a3, a4, a5⟩ := h.2.2 i hi
  unfold f_X2_outOf outN
  rw [ms_isReady h hc ht hi, bR_s]
  by_cases h1 : rdN (c.2.1 i) σ.1 = true
  · rw [if_pos h1, if_neg (by decide), show (1 : Int32) + nI i = nI (1 + i) from addN 1 i, grd_t (inb_t (by omega) (by omega)), ixn (by omega), a4, andN1 (by omega), if_pos h1]
  · rw [if_neg h1, if_pos rfl, if_neg h1]; rfl
theorem ms_fromL {M : Mem} {k : Nat} {c : Cfg} {σ : Sg} (h : stM M k c σ) (hc : okC c) (hs : okS c σ) {i : Nat} (hi : i < c.1) : ∀ (n j : Nat), j ≤ c.1 → c.1 - j < n → f_X2_fromWhich_L5 k 15 (nI i) M n (nI (frN σ.2.2 i j)) (nI j) = some (nI (frN σ.2.2 i c.1))
  | 0, j, _, h => by omega
  | n + 1, j, hj, hn => by
    have h7 := hc.1
    rw [f_X2_fromWhich_L5, h.1, iteLe (by omega) (by omega)]
    by_cases hjn : c.1 ≤ j
    · rw [if_pos hjn, show j = c.1 by omega]
    · rw [if_neg hjn]
      have hj2 : j < c.1 := by omega
      obtain ⟨a1, a2, a3, a4, a5⟩ := h.2.2 j hj2
      have hw := (hs.1 j hj2).2
      rw [show (8 : Int32) + nI j = nI (8 + j) from addN 8 j, grd_t (inb_t (by omega) (by omega)), ixn (by omega), a5]
      simp only [jn]
      rw [iteEq (by omega) (by omega), n1, addN]
      have ih := ms_fromL h hc hs hi n (j + 1) (by omega) (by omega)
      rw [frN] at ih
      by_cases e : σ.2.2 j = i
      · rw [if_pos e]; rw [if_pos e] at ih; exact ih
      · rw [if_neg e]; rw [if_neg e] at ih; exact ih
theorem ms_fromWhich {M : Mem} {k : Nat} {c : Cfg} {σ : Sg} (h : stM M k c σ) (hc : okC c) (hs : okS c σ) {i : Nat} (hi : i < c.1) : f_X2_fromWhich k 15 (nI i) M = some (nI (frN σ.2.2 i c.1)) := by
  unfold f_X2_fromWhich
  obtain ⟨fu, hfu, hf2⟩ := FUx
  rw [← hfu]
  have h7 := hc.1
  exact at0 (fun x => f_X2_fromWhich_L5 k 15 (nI i) M fu x x) (ms_fromL h hc hs hi fu 0 (by omega) (by omega))
theorem stM_of {M M' : Mem} {k : Nat} {c : Cfg} {σ : Sg} (h : stM M k c σ) (h0 : M'.1 0 = M.1 0) (hk : M'.1 k = M.1 k) (h5 : M'.1 5 = M.1 5) (h6 : M'.1 6 = M.1 6) (h7 : M'.1 7 = M.1 7) : stM M' k c σ := by
  refine ⟨by rw [h0]; exact h.1, by rw [hk]; exact h.2.1, fun i hi => ?_⟩
  rw [h5, h6, h7, hk]
  exact h.2.2 i hi
theorem ms_tickL {k : Nat} (hk : k = 8 ∨ k = 9) {c : Cfg} {σ : Sg} (hc : okC c) (hs : okS c σ) (ht : σ.1 < 1000) (K : Mem → Option Mem) : ∀ (n j : Nat) (M : Mem), j ≤ c.1 → c.1 - j < n → stM M k c σ → (∀ i, i < j → M.1 17 i = nI (tkW c σ i)) →
    ∃ M', f_X2_tickOn_L2 k 15 K n (nI j) M = K M' ∧ (∀ a, a ≠ 17 → M'.1 a = M.1 a) ∧ M'.2 = M.2 ∧ ∀ i, i < c.1 → M'.1 17 i = nI (tkW c σ i)
  | 0, j, M, _, h, _, _ => by omega
  | n + 1, j, M, hj, hn, h, hp => by
    have h7 := hc.1
    rw [f_X2_tickOn_L2, h.1, iteLe (by omega) (by omega)]
    by_cases hjn : c.1 ≤ j
    · rw [if_pos hjn]
      exact ⟨M, rfl, fun _ _ => rfl, rfl, fun i hi => hp i (by omega)⟩
    · rw [if_neg hjn]
      have hj2 : j < c.1 := by omega
      obtain ⟨a1, a2, a3, a4, a5⟩ := h.2.2 j hj2
      obtain ⟨b1, b2, b3, b4⟩ := hc.2 j hj2
      have hw := (hs.1 j hj2).1
      have hf := (okFr hs hj2).1
      have es : snt (c.2.1 j) (c.2.2.2 j) σ.1 (σ.2.1 j) (c.2.2.1 j) (outN c σ (frN σ.2.2 j c.1)) ≤ 1 := snt_le (outN_le _ _ _)
      rw [grd_t (inb_t (by omega) (by omega)), ms_fromWhich h hc hs hj2, bR_s, ms_outOf h hc hs ht hf, bR_s, ixn (by omega), a1, ms_sentBy h hc hs ht hj2 b1 (outN_le _ _ _), bR_s, ms_isReady h hc ht hj2, bR_s]
      simp only [jn, lt]
      rw [show (1 : Int32) + nI j = nI (1 + j) from addN 1 j, grd_t (inb_t (by omega) (by omega)), grd_t (inb_t (by omega) (by omega)), grd_t (inb_t (by omega) (by omega)), grd_t (inb_t (by omega) (by omega)), grd_t (inb_t (by omega) (by omega)), ixn (by omega), a4, a2, wordN hw b2 b3 es, show nI j + 1 = nI (j + 1) from nI_1 j]
      have ev : ∀ v : Nat, v = tkW c σ j → ∃ M', f_X2_tickOn_L2 k 15 K n (nI (j + 1)) (sI M 17 j (nI v)) = K M' ∧ (∀ a, a ≠ 17 → M'.1 a = M.1 a) ∧ M'.2 = M.2 ∧ ∀ i, i < c.1 → M'.1 17 i = nI (tkW c σ i) := by
        intro v hv
        have hst : stM (sI M 17 j (nI v)) k c σ := stM_of h (sI_n M _ _ _ (by omega)) (sI_n M _ _ _ (by omega)) (sI_n M _ _ _ (by omega)) (sI_n M _ _ _ (by omega)) (sI_n M _ _ _ (by omega))
        obtain ⟨M', e1, e2, e3, e4⟩ := ms_tickL hk hc hs ht K n (j + 1) (sI M 17 j (nI v)) (by omega) (by omega) hst (fun i hi => by
          rw [sI_1]
          by_cases e : i = j
          · subst e; rw [upd_same, hv]
          · rw [upd_ne _ _ e]
            exact hp i (by omega))
        exact ⟨M', e1, fun a ha => (e2 a ha).trans (sI_n M _ _ _ ha), e3, e4⟩
      by_cases hr : rdN (c.2.1 j) σ.1 = true
      · rw [if_pos hr, if_neg (by decide)]
        exact ev _ (by unfold tkW; rw [if_pos hr])
      · rw [if_neg hr, if_pos rfl]
        exact ev _ (by unfold tkW; rw [if_neg hr])
/-- n places of a row come to another one -/
theorem ms_bringL {k0 k2 : Nat} (hk : k0 ≠ k2) {n0 n2 i j n : Nat} (h0 : i + n ≤ n0) (h2 : j + n ≤ n2) (hb0 : n0 < 100000) (hb2 : n2 < 100000) : ∀ (f q : Nat) (M : Mem), q ≤ n → n - q < f →
    ∃ M', f_X2_bring_L3 k0 n0 k2 n2 (nI i) (nI j) (nI n) f (nI q) M = some M' ∧ (∀ a, a ≠ k2 → M'.1 a = M.1 a) ∧ M'.2 = M.2 ∧ ∀ x, M'.1 k2 x = if j + q ≤ x ∧ x < j + n then M.1 k0 (i + (x - j)) else M.1 k2 x
  | 0, q, M, _, h => by omega
  | f + 1, q, M, hq, hf => by
    rw [f_X2_bring_L3, iteLe (by omega) (by omega)]
    by_cases hqn : n ≤ q
    · rw [if_pos hqn]
      exact ⟨M, rfl, fun _ _ => rfl, rfl, fun x => by rw [if_neg (by omega)]⟩
    · rw [if_neg hqn, addN, addN, grd_t (inb_t (by omega) (by omega)), grd_t (inb_t (by omega) (by omega)), ixn (by omega), ixn (by omega)]
      simp only [lt]
      rw [show nI q + 1 = nI (q + 1) from nI_1 q]
      obtain ⟨M', e1, e2, e3, e4⟩ := ms_bringL hk h0 h2 hb0 hb2 f (q + 1) (sI M k2 (j + q) (M.1 k0 (i + q))) (by omega) (by omega)
      refine ⟨M', e1, fun a ha => (e2 a ha).trans (sI_n M _ _ _ ha), e3, fun x => ?_⟩
      rw [e4 x, sI_n _ _ _ _ hk, sI_1]
      by_cases g1 : j + (q + 1) ≤ x ∧ x < j + n
      · rw [if_pos g1, if_pos (by omega)]
      · rw [if_neg g1]
        by_cases g2 : x = j + q
        · subst g2
          rw [upd_same, if_pos (by omega), show j + q - j = q by omega]
        · rw [upd_ne _ _ g2, if_neg (by omega)]
theorem ms_bring {k0 k2 : Nat} (hk : k0 ≠ k2) {n0 n2 i j n : Nat} (h0 : i + n ≤ n0) (h2 : j + n ≤ n2) (hb0 : n0 < 80000) (hb2 : n2 < 80000) (M : Mem) : ∃ M', f_X2_bring k0 n0 k2 n2 (nI i) (nI j) (nI n) M = some M' ∧ (∀ a, a ≠ k2 → M'.1 a = M.1 a) ∧ M'.2 = M.2 ∧ ∀ x, M'.1 k2 x = if j ≤ x ∧ x < j + n then M.1 k0 (i + (x - j)) else M.1 k2 x := by
  unfold f_X2_bring
  obtain ⟨fu, hfu, hf2⟩ := FUx
  rw [← hfu]
  obtain ⟨M', e1, e2, e3, e4⟩ := ms_bringL hk h0 h2 (by omega) (by omega) fu 0 M (by omega) (by omega)
  exact ⟨M', at0 (fun x => f_X2_bring_L3 k0 n0 k2 n2 (nI i) (nI j) (nI n) fu x M) e1, e2, e3, e4⟩
def FrM (k : Nat) (M M' : Mem) : Prop := M'.2 = M.2 ∧ ∀ a, a ≠ k → a ≠ 17 → M'.1 a = M.1 a
theorem FrM.rf {k : Nat} {M : Mem} : FrM k M M := ⟨rfl, fun _ _ _ => rfl⟩
theorem FrM.tr {k : Nat} {M M1 M2 : Mem} (h1 : FrM k M M1) (h2 : FrM k M1 M2) : FrM k M M2 := ⟨h2.1.trans h1.1, fun a ha hb => (h2.2 a ha hb).trans (h1.2 a ha hb)⟩
theorem ms_tickOn {k : Nat} (hk : k = 8 ∨ k = 9) {c : Cfg} {σ : Sg} {M : Mem} (hc : okC c) (hs : okS c σ) (ht : σ.1 < 1000) (h : stM M k c σ) : ∃ M', f_X2_tickOn k 15 M = some M' ∧ stM M' k c (tkN c σ) ∧ FrM k M M' := by
  have h7 := hc.1
  unfold f_X2_tickOn
  obtain ⟨fu, hfu, hf2⟩ := FUx
  rw [← hfu]
  simp only [jn, lt]
  obtain ⟨M1, e1, e2, e3, e4⟩ := ms_tickL hk hc hs ht (fun M_81x => bR (f_X2_bring 17 7 k 15 0 1 (M_81x.1 0 4) M_81x) fun M92 => grd (inb 0 15) (grd (inb 0 15) (some (sI M92 k (ix 0) (M92.1 k (ix 0) + 1))))) fu 0 M (by omega) (by omega) h (fun i hi => by omega)
  obtain ⟨M2, g1, g2, g3, g4⟩ := ms_bring (k0 := 17) (k2 := k) (by omega) (n0 := 7) (n2 := 15) (i := 0) (j := 1) (n := c.1) (by omega) (by omega) (by omega) (by omega) M1
  have e5 : M1.1 0 4 = nI c.1 := by rw [e2 0 (by omega)]; exact h.1
  refine ⟨sI M2 k 0 (M2.1 k 0 + 1), (at0 (fun x => f_X2_tickOn_L2 k 15 _ fu x M) e1).trans ?_, ⟨?_, ?_, fun i hi => ?_⟩, ?_⟩
  · show bR (f_X2_bring 17 7 k 15 0 1 (M1.1 0 4) M1) _ = _
    rw [e5]
    rw [show f_X2_bring 17 7 k 15 0 1 (nI c.1) M1 = some M2 from g1, bR_s, grd_t (in0 (by omega) (by omega)), grd_t (in0 (by omega) (by omega))]
    rfl
  · rw [sI_n _ _ _ _ (by omega), g2 0 (by omega)]; exact e5
  · have q := g4 0
    rw [if_neg (by omega)] at q
    rw [sI_1, upd_same, q, e2 k (by omega), h.2.1, n1, addN]; rfl
  · obtain ⟨d1, d2, d3, d4, d5⟩ := h.2.2 i hi
    rw [sI_n _ _ _ _ (by omega), sI_n _ _ _ _ (by omega), sI_n _ _ _ _ (by omega), sI_1, upd_ne _ _ (by omega), upd_ne _ _ (by omega), g2 5 (by omega), g2 6 (by omega), g2 7 (by omega), e2 5 (by omega), e2 6 (by omega), e2 7 (by omega), g4, g4, if_pos (by omega), if_neg (by omega), e2 k (by omega), show 0 + (1 + i - 1) = i by omega, e4 i hi]
    exact ⟨d1, d2, d3, rfl, d5⟩
  · exact ⟨g3.trans e3, fun a ha hb => by rw [sI_n _ _ _ _ ha, g2 a ha, e2 a hb]⟩
theorem ms_goesL {c : Cfg} (hc : okC c) {m : Nat} (hm : m < 500) : ∀ (n j : Nat) (M : Mem) (σ : Sg), j ≤ m → m - j < n → okS c σ → σ.1 + (m - j) < 1000 → stM M 9 c σ → ∃ M', f_X2_goes_L2 (nI m) n (nI j) M = some M' ∧ stM M' 9 c (itN c (m - j) σ) ∧ FrM 9 M M'
  | 0, j, M, σ, _, h, _, _, _ => by omega
  | n + 1, j, M, σ, hj, hn, hs, ht, h => by
    rw [f_X2_goes_L2, iteLe (by omega) (by omega)]
    by_cases hjn : m ≤ j
    · rw [if_pos hjn, show m - j = 0 by omega]
      exact ⟨M, rfl, h, FrM.rf⟩
    · rw [if_neg hjn]
      obtain ⟨M1, e1, e2, e3⟩ := ms_tickOn (Or.inr rfl) hc hs (by omega) h
      rw [e1, bR_s, n1, addN]
      obtain ⟨M2, g1, g2, g3⟩ := ms_goesL hc hm n (j + 1) M1 (tkN c σ) (by omega) (by omega) (okS_tk hc hs) (by show σ.1 + 1 + (m - (j + 1)) < 1000; omega) e2
      refine ⟨M2, g1, ?_, e3.tr g3⟩
      rw [show m - j = (m - (j + 1)) + 1 by omega]
      exact g2
theorem ms_goes {c : Cfg} {σ : Sg} {M : Mem} (hc : okC c) (hs : okS c σ) {m : Nat} (hm : m < 500) (ht : σ.1 + m < 1000) (h : stM M 9 c σ) : ∃ M', f_X2_goes (nI m) M = some M' ∧ stM M' 9 c (itN c m σ) ∧ FrM 9 M M' := by
  unfold f_X2_goes
  obtain ⟨fu, hfu, hf2⟩ := FUx
  rw [← hfu]
  obtain ⟨M', e1, e2, e3⟩ := ms_goesL hc hm fu 0 M σ (by omega) (by omega) hs (by omega) h
  exact ⟨M', at0 (fun x => f_X2_goes_L2 (nI m) fu x M) e1, e2, e3⟩
theorem ms_asItIs {c : Cfg} {σ : Sg} {M : Mem} (hc : okC c) (h : stM M 8 c σ) : ∃ M', f_X2_asItIs M = some M' ∧ stM M' 9 c σ ∧ FrM 9 M M' := by
  have h7 := hc.1
  unfold f_X2_asItIs
  obtain ⟨M2, g1, g2, g3, g4⟩ := ms_bring (k0 := 8) (k2 := 9) (by omega) (n0 := 15) (n2 := 15) (i := 0) (j := 0) (n := 15) (by omega) (by omega) (by omega) (by omega) M
  rw [show f_X2_bring 8 15 9 15 0 0 15 M = some M2 from g1, bR_s]
  refine ⟨M2, rfl, ⟨?_, ?_, fun i hi => ?_⟩, g3, fun a ha _ => g2 a ha⟩
  · rw [g2 0 (by omega)]; exact h.1
  · rw [g4, if_pos (by omega)]; exact h.2.1
  · obtain ⟨d1, d2, d3, d4, d5⟩ := h.2.2 i hi
    rw [g2 5 (by omega), g2 6 (by omega), g2 7 (by omega), g4, g4, if_pos (by omega), if_pos (by omega), show 0 + (1 + i - 0) = 1 + i by omega, show 0 + (8 + i - 0) = 8 + i by omega]
    exact ⟨d1, d2, d3, d4, d5⟩
