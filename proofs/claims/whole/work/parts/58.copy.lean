/-! a part of a row is copied -/
theorem cpk_t {i j n : Nat} (h1 : i + n ≤ 40) (h2 : j + n ≤ 40) : cpk (nI i) (nI j) (nI n) 40 40 = true := by
  unfold cpk
  rw [decide_eq_true_iff]
  have e : ∀ k, k ≤ 40 → (nI k).toNatClampNeg = k := fun k hk => ixn (by omega)
  refine ⟨nI_pos (by omega), nI_pos (by omega), nI_pos (by omega), ?_, ?_⟩
  · rw [e _ (by omega), e _ (by omega)]; exact h1
  · rw [e _ (by omega), e _ (by omega)]; exact h2
theorem sub_neg {a m : Nat} (ha : a < m) (hm : m < 2147483648) : nI a - nI m < 0 := by
  rw [Int32.lt_iff_toInt_lt, Int32.toInt_sub, nI_toInt (by omega), nI_toInt hm]
  rw [Int.bmod_eq_of_le (by omega) (by omega)]
  show (a : Int) - m < 0
  omega
/-- places i .. of a row of a: there, or not -/
theorem hp_or (x : Int32) {a m : Nat} (ha : a ≤ 40) (hm : m < 2147483648) (M : Mem) : (∃ p, x = nI p ∧ p + m ≤ a ∧ f_X1_hasPlaces x (nI m) (nI a) M = some 1 ∧ ¬ x < 0 ∧ ¬ nI a - nI m < x ∧ x ≤ nI a - nI m) ∨ (f_X1_hasPlaces x (nI m) (nI a) M = some 0 ∧ (x < 0 ∨ (¬ x < 0 ∧ nI a - nI m < x ∧ ¬ x ≤ nI a - nI m))) := by
  unfold f_X1_hasPlaces
  by_cases h0 : x < 0
  · right
    rw [if_pos h0]
    exact ⟨rfl, Or.inl h0⟩
  · obtain ⟨p, hp, rfl⟩ := nI_of h0
    rw [if_neg h0]
    by_cases e : p + m ≤ a
    · left
      rw [subN (by omega)]
      have z : ¬ nI (a - m) < nI p := nI_nlt (by omega) (by omega)
      rw [if_neg z]
      exact ⟨p, rfl, e, rfl, h0, z, nI_le (by omega) (by omega)⟩
    · right
      have z : nI a - nI m < nI p := by
        by_cases g : a < m
        · exact Int32.lt_of_lt_of_le (sub_neg g hm) (nI_pos' hp)
        · rw [subN (by omega)]; exact nI_lt (by omega) hp
      rw [if_pos z]
      exact ⟨rfl, Or.inr ⟨h0, z, fun q => Int32.lt_irrefl (Int32.lt_of_lt_of_le z q)⟩⟩
theorem cp_up {r i to j m : Nat} (hr : r < 6) (ho : to < 6) (hi : i + m ≤ 40) (hj : j + m ≤ 40) (F : Nat → Int32) (hd : 40 * to + j ≤ 40 * r + i ∨ 40 * r + i + m ≤ 40 * to + j) : ∀ (n k : Nat) (M : Mem), k ≤ m → m - k < n → (∀ x, M.1 2 x = if 40 * to + j ≤ x ∧ x < 40 * to + j + k then F (40 * r + i + (x - (40 * to + j))) else F x) → ∃ M', f_X2_copy_L116 (nI r) (nI i) (nI to) (nI j) (nI m) 0 n (nI k) M = some (1, M') ∧ (∀ x, M'.1 2 x = if 40 * to + j ≤ x ∧ x < 40 * to + j + m then F (40 * r + i + (x - (40 * to + j))) else F x) ∧ (∀ a, a ≠ 2 → M'.1 a = M.1 a) ∧ M'.2 = M.2
  | 0, k, M, _, h, _ => by omega
  | n + 1, k, M, hk, hn, hM => by
    rw [f_X2_copy_L116, iteLe (by omega) (by omega)]
    by_cases e : m ≤ k
    · rw [if_pos e]
      exact ⟨M, rfl, by rw [show m = k by omega]; exact hM, fun _ _ => rfl, rfl⟩
    · rw [if_neg e]
      simp only [jn, lt]
      rw [if_pos True.intro, show (40 : Int32) * nI r = nI (40 * r) from mulN 40 r, show (40 : Int32) * nI to = nI (40 * to) from mulN 40 to, addN, addN, addN, addN, grd_t (inb_t (show 40 * r + i + k < 240 by omega) (by omega)), grd_t (inb_t (show 40 * to + j + k < 240 by omega) (by omega)), ixn (show 40 * r + i + k < 2147483648 by omega), ixn (show 40 * to + j + k < 2147483648 by omega), show nI k + 1 = nI (k + 1) from nI_1 k]
      have hM2 : ∀ x, (sI M 2 (40 * to + j + k) (M.1 2 (40 * r + i + k))).1 2 x = if 40 * to + j ≤ x ∧ x < 40 * to + j + (k + 1) then F (40 * r + i + (x - (40 * to + j))) else F x := by
        intro x
        rw [sI_1]
        by_cases g : x = 40 * to + j + k
        · rw [g, upd_same, if_pos (by omega), hM, if_neg (by omega)]
          exact congrArg F (by omega)
        · rw [upd_ne _ _ g, hM]
          by_cases g2 : 40 * to + j ≤ x ∧ x < 40 * to + j + k
          · rw [if_pos g2, if_pos (by omega)]
          · rw [if_neg g2, if_neg (by omega)]
      obtain ⟨M', q1, q2, q3, q4⟩ := cp_up hr ho hi hj F hd n (k + 1) (sI M 2 (40 * to + j + k) (M.1 2 (40 * r + i + k))) (by omega) (by omega) hM2
      exact ⟨M', q1, q2, fun a ha => (q3 a ha).trans (sI_n _ _ _ _ ha), q4⟩
theorem cp_dn {r i to j m : Nat} (hr : r < 6) (ho : to < 6) (hi : i + m ≤ 40) (hj : j + m ≤ 40) (F : Nat → Int32) (hd : 40 * r + i ≤ 40 * to + j ∨ 40 * to + j + m ≤ 40 * r + i) : ∀ (n k : Nat) (M : Mem), k ≤ m → m - k < n → (∀ x, M.1 2 x = if 40 * to + j + (m - k) ≤ x ∧ x < 40 * to + j + m then F (40 * r + i + (x - (40 * to + j))) else F x) → ∃ M', f_X2_copy_L116 (nI r) (nI i) (nI to) (nI j) (nI m) 1 n (nI k) M = some (1, M') ∧ (∀ x, M'.1 2 x = if 40 * to + j ≤ x ∧ x < 40 * to + j + m then F (40 * r + i + (x - (40 * to + j))) else F x) ∧ (∀ a, a ≠ 2 → M'.1 a = M.1 a) ∧ M'.2 = M.2
  | 0, k, M, _, h, _ => by omega
  | n + 1, k, M, hk, hn, hM => by
    rw [f_X2_copy_L116, iteLe (by omega) (by omega)]
    by_cases e : m ≤ k
    · rw [if_pos e]
      refine ⟨M, rfl, fun x => ?_, fun _ _ => rfl, rfl⟩
      rw [hM, show m - k = 0 by omega]; rfl
    · rw [if_neg e]
      simp only [jn, lt]
      rw [if10, show nI m - 1 = nI (m - 1) from subN (b := 1) (by omega), subN (by omega), show (40 : Int32) * nI r = nI (40 * r) from mulN 40 r, show (40 : Int32) * nI to = nI (40 * to) from mulN 40 to, addN, addN, addN, addN, grd_t (inb_t (show 40 * r + i + (m - 1 - k) < 240 by omega) (by omega)), grd_t (inb_t (show 40 * to + j + (m - 1 - k) < 240 by omega) (by omega)), ixn (show 40 * r + i + (m - 1 - k) < 2147483648 by omega), ixn (show 40 * to + j + (m - 1 - k) < 2147483648 by omega), show nI k + 1 = nI (k + 1) from nI_1 k]
      have hM2 : ∀ x, (sI M 2 (40 * to + j + (m - 1 - k)) (M.1 2 (40 * r + i + (m - 1 - k)))).1 2 x = if 40 * to + j + (m - (k + 1)) ≤ x ∧ x < 40 * to + j + m then F (40 * r + i + (x - (40 * to + j))) else F x := by
        intro x
        rw [sI_1]
        by_cases g : x = 40 * to + j + (m - 1 - k)
        · rw [g, upd_same, if_pos (by omega), hM, if_neg (by omega)]
          exact congrArg F (by omega)
        · rw [upd_ne _ _ g, hM]
          by_cases g2 : 40 * to + j + (m - k) ≤ x ∧ x < 40 * to + j + m
          · rw [if_pos g2, if_pos (by omega)]
          · rw [if_neg g2, if_neg (by omega)]
      obtain ⟨M', q1, q2, q3, q4⟩ := cp_dn hr ho hi hj F hd n (k + 1) (sI M 2 (40 * to + j + (m - 1 - k)) (M.1 2 (40 * r + i + (m - 1 - k)))) (by omega) (by omega) hM2
      exact ⟨M', q1, q2, fun a ha => (q3 a ha).trans (sI_n _ _ _ _ ha), q4⟩
theorem tt_copy {Mc Mm : Mem} (h0 : Sim Mc Mm) (x1 x2 x3 x4 x5 : Int32) : Both (f_X1_copy x1 x2 x3 x4 x5 Mc) (f_X2_copy x1 x2 x3 x4 x5 Mm) := by
  obtain ⟨c, ds, d, h⟩ := id h0
  unfold f_X1_copy f_X2_copy
  obtain ⟨fu, hfu, hf2⟩ := FUx
  rw [← hfu]
  rcases isRow_or x1 Mc Mm with ⟨r, hr, rfl, e1, e2⟩ | ⟨e1, e2⟩
  · rw [e1, e2, bR_s, bR_s, if10, if10]
    rcases isRow_or x3 Mc Mm with ⟨to, ho, rfl, e3, e4⟩ | ⟨e3, e4⟩
    · rw [e3, e4, bR_s, bR_s, if10, if10]
      by_cases h5 : x5 < 0
      · rw [if_neg (neg_nle h5), if_neg (neg_nle h5)]
        exact both_ref h (f := 5) (by omega) (by omega)
      · obtain ⟨m, hm, rfl⟩ := nI_of h5
        obtain ⟨s1, s2, s3⟩ := h.2.2.1 r hr
        obtain ⟨u1, u2, u3⟩ := h.2.2.1 to ho
        simp only [jn, lt, grd_t (inb_t (show r < 6 by omega) (show 6 < 2147483648 by omega)), ixn (show r < 2147483648 by omega), grd_t (inb_t (show to < 6 by omega) (show 6 < 2147483648 by omega)), ixn (show to < 2147483648 by omega)]
        rw [if_pos (nI_pos' hm), if_pos (nI_pos' hm), ← s1, ← u1]
        rcases s2 with s2 | ⟨a, ha, s2⟩
        · rw [s2, if_pos (show (-1 : Int32) = -1 from rfl), if_pos (show (-1 : Int32) < 0 by decide)]
          exact both_ref h (f := 1) (by omega) (by omega)
        · rw [s2, if_neg (nI_nm (by omega)), if_neg (nI_pos (n := a) (by omega))]
          rcases u2 with u2 | ⟨b, hb, u2⟩
          · rw [u2, if_pos (show (-1 : Int32) = -1 from rfl), if_neg (show ¬ (0 : Int32) ≤ -1 by decide)]
            exact both_ref h (f := 1) (by omega) (by omega)
          · rw [u2, if_neg (nI_nm (by omega)), if_pos (nI_pos' (n := b) (by omega))]
            have bad : Both (bI (f_X1_refuse 2 Mc) fun r M => some (r, M)) (bI (f_X2_found 2 Mm) fun r M => some (r, M)) := both_ref h (f := 2) (by omega) (by omega)
            rcases hp_or x2 ha hm Mc with ⟨i, rfl, hi, p1, p2, p3, p4⟩ | ⟨p1, p2⟩
            · rw [p1, bR_s, if10, if_neg p2]
              rcases hp_or x4 hb hm Mc with ⟨j, rfl, hj, q1, q2, q3, q4⟩ | ⟨q1, q2⟩
              · rw [q1, bR_s, if10, if_neg q2, if_neg (show ¬ (40 : Int32) < nI m from nI_nlt (a := 40) (by omega) (by omega)), if_neg p3, if_pos q4, grd_t (cpk_t (by omega) (by omega)), ixn (show i < 2147483648 by omega), ixn (show j < 2147483648 by omega), ixn (show m < 2147483648 by omega), iteLe (by omega) (by omega)]
                have fin : ∀ M', (∀ x, M'.1 2 x = if 40 * to + j ≤ x ∧ x < 40 * to + j + m then Mm.1 2 (40 * r + i + (x - (40 * to + j))) else Mm.1 2 x) → (∀ a, a ≠ 2 → M'.1 a = Mm.1 a) → M'.2 = Mm.2 → Both (some ((1 : Int32), sA Mc (2 + to) (va_cpy (Mc.1 (2 + r)) (Mc.1 (2 + to)) i j m))) (some (1, M')) := by
                  intro M' z1 z2 z3
                  refine ⟨_, _, _, rfl, rfl, c, ds, d, h.rows rfl (fun a ha => sA_n _ _ _ (by omega)) z3 (fun a _ ha => z2 a ha) (fun q hq => ?_)⟩
                  obtain ⟨v1, v2, v3⟩ := h.2.2.1 q hq
                  rw [sA_n _ _ _ (show 8 ≠ 2 + to by omega), z2 1 (by omega)]
                  refine ⟨v1, v2, fun x hx => ?_⟩
                  rw [z1]
                  by_cases eq : q = to
                  · subst eq
                    rw [sA_1]
                    by_cases g : j ≤ x ∧ x < j + m
                    · rw [if_pos (by omega), pk_cpy_in g.1 g.2, s3 _ (by omega)]
                      exact congrArg (Mm.1 2) (by omega)
                    · rw [if_neg (by omega), pk_cpy_out (by omega)]
                      exact v3 x hx
                  · rw [sA_n _ _ _ (by omega), if_neg (by omega)]
                    exact v3 x hx
                by_cases g : j ≤ i
                · rw [if_pos g]
                  obtain ⟨M', z1, z2, z3, z4⟩ := cp_up hr ho (show i + m ≤ 40 by omega) (show j + m ≤ 40 by omega) (Mm.1 2) (by omega) fu 0 Mm (by omega) (by omega) (fun x => by rw [if_neg (by omega)])
                  rw [show f_X2_copy_L116 (nI r) (nI i) (nI to) (nI j) (nI m) 0 fu 0 Mm = some (1, M') from z1]
                  exact fin M' z2 z3 z4
                · rw [if_neg g]
                  obtain ⟨M', z1, z2, z3, z4⟩ := cp_dn hr ho (show i + m ≤ 40 by omega) (show j + m ≤ 40 by omega) (Mm.1 2) (by omega) fu 0 Mm (by omega) (by omega) (fun x => by rw [if_neg (by omega)])
                  rw [show f_X2_copy_L116 (nI r) (nI i) (nI to) (nI j) (nI m) 1 fu 0 Mm = some (1, M') from z1]
                  exact fin M' z2 z3 z4
              · rw [q1, bR_s, if00]
                rcases q2 with q2 | ⟨q2, q3, q4⟩
                · rw [if_pos q2]; exact bad
                · rw [if_neg q2, if_neg (show ¬ (40 : Int32) < nI m from nI_nlt (a := 40) (by omega) (by omega)), if_neg p3, if_neg q4]
                  exact bad
            · rw [p1, bR_s, if00]
              rcases p2 with p2 | ⟨p2, p3, p4⟩
              · rw [if_pos p2]; exact bad
              · rw [if_neg p2, if_pos p3]
                have : ∀ {α : Type} (A : α), (if (40 : Int32) < nI m then A else A) = A := fun A => by split <;> rfl
                rw [this]
                by_cases g : x4 < 0
                · rw [if_pos g]; exact bad
                · rw [if_neg g]; exact bad
    · rw [e3, e4, bR_s, bR_s, if00, if00]
      exact both_bad h0 _
  · rw [e1, e2, bR_s, bR_s, if00, if00]
    exact both_bad h0 _
