/-! what was heard -/
def okB (x : Int32) : Bool := decide (¬ x < 0 ∧ ¬ (1 : Int32) < x)
theorem okB_c (x : Int32) (Mc Mm : Mem) : f_X1_isWithin x 0 1 Mc = some (if okB x = true then 1 else 0) ∧ f_X2_in x 0 1 Mm = some (if okB x = true then 1 else 0) := by
  by_cases h : ¬ x < 0 ∧ ¬ (1 : Int32) < x
  · rw [if_pos (show okB x = true from decide_eq_true h), (inY h.1 h.2).2, (inY h.1 h.2).1]; exact ⟨rfl, rfl⟩
  · have h2 : x < 0 ∨ (1 : Int32) < x := by
      by_cases q : x < 0
      · exact Or.inl q
      · exact Or.inr (Classical.byContradiction fun w => h ⟨q, w⟩)
    rw [if_neg (show ¬ okB x = true from fun q => h (of_decide_eq_true q)), (inNo h2).2, (inNo h2).1]; exact ⟨rfl, rfl⟩
def alB (R : Nat → Int32) : Nat → Nat → Bool
  | 0, _ => true
  | m + 1, j => okB (R j) && alB R m (j + 1)
theorem alB_c {R S : Nat → Int32} : ∀ (m j : Nat), (∀ x, x < j + m → R x = S x) → alB R m j = alB S m j
  | 0, _, _ => rfl
  | m + 1, j, h => by rw [alB, alB, h j (by omega), alB_c m (j + 1) (fun x hx => h x (by omega))]
theorem c_lkL {M : Mem} {r s : Nat} (hr : r < 6) (hs : s ≤ 40) : ∀ (n j : Nat), j ≤ s → s - j < n → f_X1_lookThroughHeard_L28 (nI r) (nI s) M n (nI j) = some (if alB (M.1 (2 + r)) (s - j) j = true then 0 else 3)
  | 0, j, _, h => by omega
  | n + 1, j, hj, hn => by
    rw [f_X1_lookThroughHeard_L28, iteLe (by omega) (by omega)]
    by_cases e : s ≤ j
    · rw [if_pos e, show s - j = 0 by omega]; rfl
    · rw [if_neg e, grd_t (inb_t hr (by omega)), grd_t (inb_t (show j < 40 by omega) (by omega)), ixn (by omega), ixn (by omega), (okB_c _ M M).1, bR_s, show nI j + 1 = nI (j + 1) from nI_1 j, show s - j = (s - (j + 1)) + 1 by omega, alB]
      by_cases g : okB (M.1 (2 + r) j) = true
      · rw [if_pos g, if10, c_lkL hr hs n (j + 1) (by omega) (by omega), g, Bool.true_and]
      · rw [if_neg g, if00, Bool.eq_false_iff.mpr g, Bool.false_and]; rfl
theorem m_lkL {M : Mem} {r s : Nat} (hr : r < 6) (hs : s ≤ 40) (h1 : M.1 1 r = nI s) (K : Int32 → Option Int32) : ∀ (n j : Nat) (b : Bool), j ≤ s → s - j < n → f_X2_heardOf_L32 (nI r) M K n (if b = true then 1 else 0) (nI j) = K (if (b && alB (fun x => M.1 2 (40 * r + x)) (s - j) j) = true then 1 else 0)
  | 0, j, b, _, h => by omega
  | n + 1, j, b, hj, hn => by
    rw [f_X2_heardOf_L32, grd_t (inb_t hr (by omega)), ixn (by omega), h1, iteLe (by omega) (by omega)]
    by_cases e : s ≤ j
    · rw [if_pos e, show s - j = 0 by omega, alB, Bool.and_true]
    · rw [if_neg e, jn_e, jn_e, show (40 : Int32) * nI r = nI (40 * r) from mulN 40 r, addN, grd_t (inb_t (show 40 * r + j < 240 by omega) (by omega)), ixn (by omega), (okB_c _ M M).2, bR_s, show nI j + 1 = nI (j + 1) from nI_1 j, show s - j = (s - (j + 1)) + 1 by omega, alB]
      have i1 := m_lkL hr hs h1 K n (j + 1) true (by omega) (by omega)
      have i0 := m_lkL hr hs h1 K n (j + 1) false (by omega) (by omega)
      rw [Bool.true_and] at i1
      rw [Bool.false_and] at i0
      cases b with
      | false =>
        rw [Bool.false_and, if_neg (show ¬ false = true by decide), if00]
        exact i0
      | true =>
        rw [Bool.true_and, if_pos (show true = true from rfl), if10]
        by_cases g : okB (M.1 2 (40 * r + j)) = true
        · rw [if_pos g, if10, g, Bool.true_and]
          exact i1
        · rw [if_neg g, if00, Bool.eq_false_iff.mpr g, Bool.false_and]
          exact i0
theorem lk_or {Mc Mm : Mem} {c : Cfg} {ds : Nat → Nat} {d r : Nat} (h : SimX c ds d Mc Mm) (hr : r < 6) : (∃ s, s ≤ 20 ∧ Mc.1 8 r = nI s ∧ f_X1_lookThroughHeard (nI r) Mc = some 0 ∧ f_X2_heardOf (nI r) Mm = some 0) ∨ ∃ f, 1 ≤ f ∧ f ≤ 5 ∧ f_X1_lookThroughHeard (nI r) Mc = some (nI f) ∧ f_X2_heardOf (nI r) Mm = some (nI f) := by
  obtain ⟨s1, s2, s3⟩ := h.2.2.1 r hr
  unfold f_X1_lookThroughHeard f_X2_heardOf
  obtain ⟨fu, hfu, hf2⟩ := FUx
  rw [← hfu]
  simp only [grd_t (inb_t (show r < 6 by omega) (show 6 < 2147483648 by omega)), ixn (show r < 2147483648 by omega)]
  rw [← s1]
  rcases s2 with s2 | ⟨s, hs, s2⟩
  · rw [s2, if_pos (show (-1 : Int32) = -1 from rfl), if_neg (show ¬ (0 : Int32) ≤ -1 by decide)]
    exact Or.inr ⟨1, by omega, by omega, rfl, rfl⟩
  · rw [s2, if_neg (nI_nm (by omega)), if_pos (nI_pos' (by omega))]
    rcases in_rng (nI s) 1 20 (by omega) (by omega) Mc Mm with ⟨q, q1, q2, q3, e1, e2⟩ | ⟨e1, e2⟩
    · have hsq : s = q := (nI_eq (by omega) (by omega)).mp q3
      rw [show f_X1_isWithin (nI s) 1 20 Mc = some 1 from e1, show f_X2_in (nI s) 1 20 Mm = some 1 from e2, bR_s, bR_s, if10, if10, jn_e]
      have k1 := c_lkL (M := Mc) hr hs fu 0 (by omega) (by omega)
      have k2 := m_lkL (M := Mm) hr hs (s1.symm.trans s2) (fun v => if v = 0 then some (3 : Int32) else some 0) fu 0 true (by omega) (by omega)
      rw [show f_X1_lookThroughHeard_L28 (nI r) (nI s) Mc fu 0 = _ from k1, show f_X2_heardOf_L32 (nI r) Mm (fun v => if v = 0 then some (3 : Int32) else some 0) fu 1 0 = _ from k2, Bool.true_and, alB_c (R := Mc.1 (2 + r)) (S := fun x => Mm.1 2 (40 * r + x)) (s - 0) 0 (fun x hx => s3 x (by omega))]
      by_cases g : alB (fun x => Mm.1 2 (40 * r + x)) (s - 0) 0 = true
      · rw [if_pos g, if_pos g]
        exact Or.inl ⟨s, by omega, rfl, rfl, rfl⟩
      · rw [if_neg g, if_neg g]
        exact Or.inr ⟨3, by omega, by omega, rfl, rfl⟩
    · rw [show f_X1_isWithin (nI s) 1 20 Mc = some 0 from e1, show f_X2_in (nI s) 1 20 Mm = some 0 from e2, bR_s, bR_s, if00, if00]
      exact Or.inr ⟨5, by omega, by omega, rfl, rfl⟩
/-- whether what comes out of a tube is as in a row -/
def hdB (c : Cfg) (i : Nat) (R : Nat → Int32) (s : Nat) : Nat → Nat → Sg → Bool
  | 0, k, _ => decide (k = s)
  | n + 1, k, σ => if s ≤ k then decide (k = s) else if rdN (c.2.1 i) σ.1 = true then (if nI (σ.2.1 i % 2) = R k then hdB c i R s n (k + 1) (tkN c σ) else false) else hdB c i R s n k (tkN c σ)
theorem hdB_c {c : Cfg} {i s : Nat} {R S : Nat → Int32} (h : ∀ j, j < s → R j = S j) : ∀ (n k : Nat) (σ : Sg), hdB c i R s n k σ = hdB c i S s n k σ
  | 0, _, _ => rfl
  | n + 1, k, σ => by
    rw [hdB, hdB]
    by_cases e : s ≤ k
    · rw [if_pos e, if_pos e]
    · rw [if_neg e, if_neg e, h k (by omega), hdB_c h n (k + 1), hdB_c h n k]
theorem dIte (p : Prop) [Decidable p] {α : Type} (a b : α) : (if decide p = true then a else b) = if p then a else b := by
  by_cases h : p
  · rw [if_pos h, if_pos (decide_eq_true h)]
  · rw [if_neg h, if_neg (fun q => h (of_decide_eq_true q))]
theorem cs_hdL {c : Cfg} {i r s : Nat} {R : Nat → Int32} (hc : okC c) (hi : i < c.1) (hr : r < 6) (hs : s ≤ 40) (K : Int32 → Mem → Option (Int32 × Mem)) (hK : ∀ (k : Nat) M, k ≤ 40 → K (nI k) M = some (if k = s then 1 else 0, M)) : ∀ (n j k : Nat) (M : Mem) (σ : Sg), j ≤ 60 → 60 - j < n → k ≤ s → stC M 22 c σ → okS c σ → σ.1 + (60 - j) < 900 → M.1 (2 + r) = R → ∃ M', f_X1_isHeard_L13 (nI i) (nI r) (nI s) K n (nI k) (nI j) M = some (if hdB c i R s (60 - j) k σ = true then 1 else 0, M') ∧ Fr 22 M M'
  | 0, j, k, M, σ, _, h, _, _, _, _, _ => by omega
  | n + 1, j, k, M, σ, hj, hn, hk, h, hs2, ht, hR => by
    rw [f_X1_isHeard_L13, show (60 : Int32) = nI 60 from rfl, iteLe (by omega) (by omega)]
    by_cases e : 60 ≤ j
    · rw [if_pos e, hK k M (by omega), show 60 - j = 0 by omega, hdB, dIte]
      exact ⟨M, rfl, Fr.rf⟩
    · rw [if_neg e, iteLe (by omega) (by omega), show 60 - j = (60 - (j + 1)) + 1 by omega, hdB]
      by_cases e2 : s ≤ k
      · rw [if_pos e2, hK k M (by omega), if_pos e2, dIte]
        exact ⟨M, rfl, Fr.rf⟩
      · rw [if_neg e2, if_neg e2, cs_isReady h hc (by omega) hi, bR_s, jn_e]
        obtain ⟨P, p1, p2, p3⟩ := cs_goOn (m := 1) hc hs2 (by omega) (by omega) h
        have p1' : f_X0_goOn 22 1 M = some P := p1
        have go : ∀ k', k' ≤ s → ∃ M', (bR (f_X0_goOn 22 1 M) fun M67 => f_X1_isHeard_L13 (nI i) (nI r) (nI s) K n (nI k') (nI j + 1) M67) = some (if hdB c i R s (60 - (j + 1)) k' (tkN c σ) = true then 1 else 0, M') ∧ Fr 22 M M' := by
          intro k' hk'
          rw [p1', bR_s, show nI j + 1 = nI (j + 1) from nI_1 j]
          obtain ⟨M', q1, q2⟩ := cs_hdL (R := R) hc hi hr hs K hK n (j + 1) k' P (tkN c σ) (by omega) (by omega) hk' p2 (okS_tk hc hs2) (by show σ.1 + 1 + (60 - (j + 1)) < 900; omega) (by rw [p3.2 (2 + r) (by omega)]; exact hR)
          exact ⟨M', q1, p3.tr q2⟩
        by_cases g : rdN (c.2.1 i) σ.1 = true
        · rw [if_pos g, if10, if_pos g, cs_comesOut h hc hs2 (by omega) hi, bR_s, grd_t (inb_t hr (by omega)), grd_t (inb_t (show k < 40 by omega) (by omega)), ixn (show r < 2147483648 by omega), ixn (show k < 2147483648 by omega), hR, show outN c σ i = σ.2.1 i % 2 by unfold outN; rw [if_pos g]]
          by_cases g2 : nI (σ.2.1 i % 2) = R k
          · rw [if_pos g2, if_pos g2, show nI k + 1 = nI (k + 1) from nI_1 k]
            exact go (k + 1) (by omega)
          · rw [if_neg g2, if_neg g2]
            exact ⟨M, rfl, Fr.rf⟩
        · rw [if_neg g, if00, if_neg g]
          exact go k hk
theorem cs_isHeard {M : Mem} {c : Cfg} {σ : Sg} {i r s : Nat} (hc : okC c) (hi : i < c.1) (hr : r < 6) (hs : s ≤ 40) (h : stC M 22 c σ) (hs2 : okS c σ) (ht : σ.1 < 800) (h8 : M.1 8 r = nI s) : ∃ M', f_X1_isHeard (nI i) (nI r) M = some (if hdB c i (M.1 (2 + r)) s 60 0 σ = true then 1 else 0, M') ∧ Fr 22 M M' := by
  unfold f_X1_isHeard
  obtain ⟨fu, hfu, hf2⟩ := FUx
  rw [← hfu, grd_t (inb_t hr (by omega)), jn_e, ixn (by omega), h8]
  exact cs_hdL hc hi hr hs _ (fun k M hk => by
    rw [iteEq (by omega) (by omega)]
    by_cases e : k = s
    · rw [if_pos e, if_pos e]
    · rw [if_neg e, if_neg e]) fu 0 0 M σ (by omega) (by omega) (by omega) h hs2 (by omega) rfl
theorem ms_hdL {c : Cfg} {i r s : Nat} {R : Nat → Int32} (hc : okC c) (hi : i < c.1) (hr : r < 6) (hs : s ≤ 40) (K : Int32 → Int32 → Mem → Option (Int32 × Mem)) (hK : ∀ (k : Nat) M, k ≤ 40 → M.1 1 r = nI s → K (nI k) 1 M = some (if k = s then 1 else 0, M)) (hK0 : ∀ (k : Nat) M, K (nI k) 0 M = some (0, M)) : ∀ (n j k : Nat) (M : Mem) (σ : Sg), j ≤ 60 → 60 - j + 1 < n → k ≤ s → stM M 9 c σ → okS c σ → σ.1 + (60 - j) < 900 → (∀ x, x < s → M.1 2 (40 * r + x) = R x) → M.1 1 r = nI s → ∃ M', f_X2_isHeard_L8 (nI i) (nI r) K n (nI k) 1 (nI j) M = some (if hdB c i R s (60 - j) k σ = true then 1 else 0, M') ∧ FrM 9 M M'
  | 0, j, k, M, σ, _, h, _, _, _, _, _, _ => by omega
  | n + 1, j, k, M, σ, hj, hn, hk, h, hs2, ht, hR, h1 => by
    have h7 := hc.1
    rw [f_X2_isHeard_L8, show (60 : Int32) = nI 60 from rfl, iteLe (by omega) (by omega)]
    by_cases e : 60 ≤ j
    · rw [if_pos e, hK k M (by omega) h1, show 60 - j = 0 by omega, hdB, dIte]
      exact ⟨M, rfl, FrM.rf⟩
    · rw [if_neg e, if10, grd_t (inb_t hr (by omega)), ixn (by omega), h1, iteLe (by omega) (by omega), show 60 - j = (60 - (j + 1)) + 1 by omega, hdB]
      by_cases e2 : s ≤ k
      · rw [if_pos e2, hK k M (by omega) h1, if_pos e2, dIte]
        exact ⟨M, rfl, FrM.rf⟩
      · rw [if_neg e2, if_neg e2, ms_isReady h hc (by omega) hi, bR_s, jn_e]
        obtain ⟨P, p1, p2, p3⟩ := ms_goes (m := 1) hc hs2 (by omega) (by omega) h
        have p1' : f_X2_goes 1 M = some P := p1
        have go : ∀ k', k' ≤ s → ∃ M', (bR (f_X2_goes 1 M) fun M67 => f_X2_isHeard_L8 (nI i) (nI r) K n (nI k') 1 (nI j + 1) M67) = some (if hdB c i R s (60 - (j + 1)) k' (tkN c σ) = true then 1 else 0, M') ∧ FrM 9 M M' := by
          intro k' hk'
          rw [p1', bR_s, show nI j + 1 = nI (j + 1) from nI_1 j]
          obtain ⟨M', q1, q2⟩ := ms_hdL (R := R) hc hi hr hs K hK hK0 n (j + 1) k' P (tkN c σ) (by omega) (by omega) hk' p2 (okS_tk hc hs2) (by show σ.1 + 1 + (60 - (j + 1)) < 900; omega) (fun x hx => by rw [p3.2 2 (by omega) (by omega)]; exact hR x hx) (by rw [p3.2 1 (by omega) (by omega)]; exact h1)
          exact ⟨M', q1, p3.tr q2⟩
        by_cases g : rdN (c.2.1 i) σ.1 = true
        · rw [if_pos g, if10, if_pos g, show (1 : Int32) + nI i = nI (1 + i) from addN 1 i, grd_t (inb_t (show 1 + i < 15 by omega) (by omega)), show (40 : Int32) * nI r = nI (40 * r) from mulN 40 r, addN, grd_t (inb_t (show 40 * r + k < 240 by omega) (by omega)), jn_e, ixn (show 1 + i < 2147483648 by omega), ixn (show 40 * r + k < 2147483648 by omega), (h.2.2 i hi).2.2.2.1, hR k (by omega), andN1 (by have := okW hc hs2 hi; omega)]
          by_cases g2 : nI (σ.2.1 i % 2) = R k
          · rw [if_pos g2, if_pos g2, show nI k + 1 = nI (k + 1) from nI_1 k]
            exact go (k + 1) (by omega)
          · rw [if_neg g2, if_neg g2]
            show ∃ M', (bR (f_X2_goes 1 M) fun M78 => f_X2_isHeard_L8 (nI i) (nI r) K n (nI k + 1) 0 (nI j + 1) M78) = some (0, M') ∧ FrM 9 M M'
            rw [p1', bR_s, show nI k + 1 = nI (k + 1) from nI_1 k]
            obtain ⟨n, rfl⟩ : ∃ n', n = n' + 1 := ⟨n - 1, by omega⟩
            rw [f_X2_isHeard_L8, show nI j + 1 = nI (j + 1) from nI_1 j, show (60 : Int32) = nI 60 from rfl, iteLe (by omega) (by omega), if00, hK0]
            have : ∀ {α : Type} (A : α), (if 60 ≤ j + 1 then A else A) = A := fun A => by split <;> rfl
            rw [this]
            exact ⟨P, rfl, p3⟩
        · rw [if_neg g, if00, if_neg g]
          exact go k hk
theorem ms_isHeard {M : Mem} {c : Cfg} {σ : Sg} {i r s : Nat} {R : Nat → Int32} (hc : okC c) (hi : i < c.1) (hr : r < 6) (hs : s ≤ 40) (h : stM M 9 c σ) (hs2 : okS c σ) (ht : σ.1 < 800) (h1 : M.1 1 r = nI s) (hR : ∀ x, x < s → M.1 2 (40 * r + x) = R x) : ∃ M', f_X2_isHeard (nI i) (nI r) M = some (if hdB c i R s 60 0 σ = true then 1 else 0, M') ∧ FrM 9 M M' := by
  unfold f_X2_isHeard
  obtain ⟨fu, hfu, hf2⟩ := FUx
  rw [← hfu, jn_e]
  exact ms_hdL hc hi hr hs _ (fun k M hk h1 => by
    rw [if10, grd_t (inb_t hr (by omega)), ixn (by omega), h1, iteEq (by omega) (by omega)]
    by_cases e : k = s
    · rw [if_pos e, if_pos e]
    · rw [if_neg e, if_neg e]) (fun k M => if00) fu 0 0 M σ (by omega) (by omega) (by omega) h hs2 (by omega) hR h1
