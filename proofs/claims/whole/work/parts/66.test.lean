/-! when to listen next -/
def lkN (c : Cfg) (i : Nat) (σ : Sg) (k n : Nat) : Nat := (itN (cfK c i k) n σ).2.1 i
theorem c_laL {c : Cfg} {i k : Nat} (hc : okC c) (hi : i < c.1) (hk : k < 6) (σ : Sg) (K : Mem → Option Mem) : ∀ (n t : Nat) (M : Mem), t ≤ 20 → 20 - t < n → stC M 22 c (itN c t σ) → okS c σ → σ.1 < 800 → (∀ x, x < t → M.1 (36 + k) x = nI ((itN c (x + 1) σ).2.1 i)) → ∃ M', f_X1_lookAhead_L31 (nI i) (nI k) K n (nI t) M = K M' ∧ (∀ x, x < 20 → M'.1 (36 + k) x = nI ((itN c (x + 1) σ).2.1 i)) ∧ M'.2 = M.2 ∧ ∀ a, (a < 22 ∨ 28 < a) → a ≠ 36 + k → M'.1 a = M.1 a
  | 0, t, M, _, h, _, _, _, _ => by omega
  | n + 1, t, M, ht, hn, h, hs, h8, hM => by
    have h7 := hc.1
    rw [f_X1_lookAhead_L31, show (20 : Int32) = nI 20 from rfl, iteLe (by omega) (by omega)]
    by_cases e : 20 ≤ t
    · rw [if_pos e]
      exact ⟨M, rfl, fun x hx => hM x (by omega), rfl, fun _ _ _ => rfl⟩
    · have hso := okS_it hc t hs
      obtain ⟨P, p1, p2, p3⟩ := cs_goOn (m := 1) hc hso (by omega) (by rw [itN_t]; omega) h
      have p2' : stC P 22 c (itN c (t + 1) σ) := by rw [itN_s]; exact p2
      rw [if_neg e, show f_X0_goOn 22 1 M = some P from p1, bR_s, grd_t (inb_t (show k < 6 by omega) (by omega)), grd_t (inb_t (show i < 7 by omega) (by omega)), grd_t (inb_t (show t < 20 by omega) (by omega)), ixn (show k < 2147483648 by omega), ixn (show t < 2147483648 by omega), ixn (show i < 2147483648 by omega), lt_e, (p2'.2.2 i hi).2.2.2.1, show nI t + 1 = nI (t + 1) from nI_1 t]
      obtain ⟨M', q1, q2, q3, q4⟩ := c_laL hc hi hk σ K n (t + 1) (sI P (36 + k) t (nI ((itN c (t + 1) σ).2.1 i))) (by omega) (by omega) (stC_of p2' (sI_n _ _ _ _ (by omega)) (fun j j1 j2 => sI_n _ _ _ _ (by omega))) hs h8 (fun x hx => by
        rw [sI_1]
        by_cases g : x = t
        · rw [g, upd_same]
        · rw [upd_ne _ _ g, p3.2 (36 + k) (by omega)]; exact hM x (by omega))
      exact ⟨M', q1, q2, q3.trans p3.1, fun a ha hb => by rw [q4 a ha hb, sI_n _ _ _ _ hb, p3.2 a (by omega)]⟩
/-- looks of all kinds up to k -/
theorem c_laK {c : Cfg} {ds : Nat → Nat} {d i : Nat} {Mc Mm : Mem} (h0 : SimX c ds d Mc Mm) (hi : i < c.1) : ∀ (n k : Nat) (M : Mem), k ≤ 6 → 6 - k < n → M.2 = Mc.2 → (∀ a, (a < 22 ∨ (28 < a ∧ a < 36) ∨ 41 < a) → M.1 a = Mc.1 a) → (∀ x, x < k → ∀ t, t < 20 → M.1 (36 + x) t = nI (lkN c i (rpN c ds d) x (t + 1))) → ∃ M', f_X1_lookAhead_L2 (nI i) n (nI k) M = some M' ∧ M'.2 = Mc.2 ∧ (∀ a, (a < 22 ∨ (28 < a ∧ a < 36) ∨ 41 < a) → M'.1 a = Mc.1 a) ∧ ∀ x, x < 6 → ∀ t, t < 20 → M'.1 (36 + x) t = nI (lkN c i (rpN c ds d) x (t + 1))
  | 0, k, M, _, h, _, _, _ => by omega
  | n + 1, k, M, hk, hn, h2, hF, hL => by
    have hc := h0.1.1
    have h7 := hc.1
    have ht := h0.t
    obtain ⟨fu, hfu, hf2⟩ := FUx
    rw [f_X1_lookAhead_L2, show (6 : Int32) = nI 6 from rfl, iteLe (by omega) (by omega), ← hfu]
    by_cases e : 6 ≤ k
    · rw [if_pos e]
      exact ⟨M, rfl, h2, hF, fun x hx => hL x (by omega)⟩
    · have h15 : stC M 15 c (rpN c ds d) := stC_of h0.1.2.2.2.1 (hF 15 (by omega)) (fun j j1 j2 => hF (15 + j) (by omega))
      obtain ⟨P, p1, p2, p3⟩ := cs_take (Or.inl ⟨rfl, rfl⟩) hc h15
      have q2 := stC_K p2 i k
      rw [if_neg e, p1, bR_s, grd_t (inb_t (show i < 7 by omega) (by omega)), ixn (by omega), lt_e, jn_e, show nI k + 1 = nI (k + 1) from nI_1 k]
      obtain ⟨Q, u1, u2, u3, u4⟩ := c_laL (okC_K hc (show k ≤ 5 by omega)) hi (show k < 6 by omega) (rpN c ds d) (fun M_68x => f_X1_lookAhead_L2 (nI i) n (nI (k + 1)) M_68x) fu 0 (sI P (22 + 1) i (nI k)) (by omega) (by omega) q2 (okS_K h0.okS i k) (by omega) (fun x hx => by omega)
      rw [show f_X1_lookAhead_L31 (nI i) (nI k) (fun M_68x => f_X1_lookAhead_L2 (nI i) n (nI (k + 1)) M_68x) fu 0 (sI P (22 + 1) i (nI k)) = _ from u1]
      refine c_laK h0 hi n (k + 1) Q (by omega) (by omega) (by rw [u3, sI_2, p3.1, h2]) (fun a ha => by rw [u4 a (by omega) (by omega), sI_n _ _ _ _ (by omega), p3.2 a (by omega), hF a ha]) (fun x hx t ht => ?_)
      by_cases g : x = k
      · rw [g]; exact u2 t ht
      · rw [u4 (36 + x) (by omega) (by omega), sI_n _ _ _ _ (by omega), p3.2 (36 + x) (by omega)]
        exact hL x (by omega) t ht
def gaN (m : Nat) (L : Nat → Int32) (a : Nat) : Nat → Nat
  | 0 => 0
  | b + 1 => gaN m L a b + if bitN m a = 1 ∧ bitN m b = 1 ∧ L a = L b then 1 else 0
def grN (m : Nat) (L : Nat → Int32) : Nat → Nat
  | 0 => 0
  | a + 1 => if gaN m L a 6 ≤ grN m L a then grN m L a else gaN m L a 6
theorem gaN_le (m : Nat) (L : Nat → Int32) (a : Nat) : ∀ b, gaN m L a b ≤ b
  | 0 => Nat.le_refl _
  | b + 1 => by
    have h := gaN_le m L a b
    rw [gaN]
    split <;> omega
theorem grN_le (m : Nat) (L : Nat → Int32) : ∀ a, grN m L a ≤ 6
  | 0 => Nat.zero_le _
  | a + 1 => by
    have h := grN_le m L a
    have h2 := gaN_le m L a 6
    rw [grN]
    split <;> omega
theorem gaN_c {m : Nat} {L L' : Nat → Int32} (h : ∀ x, x < 6 → L x = L' x) {a : Nat} (ha : a < 6) : ∀ b, b ≤ 6 → gaN m L a b = gaN m L' a b
  | 0, _ => rfl
  | b + 1, hb => by rw [gaN, gaN, gaN_c h ha b (by omega), h a ha, h b (by omega)]
theorem grN_c {m : Nat} {L L' : Nat → Int32} (h : ∀ x, x < 6 → L x = L' x) : ∀ a, a ≤ 6 → grN m L a = grN m L' a
  | 0, _ => rfl
  | a + 1, ha => by rw [grN, grN, grN_c h a (by omega), gaN_c h (show a < 6 by omega) 6 (by omega)]
theorem two_bits : ∀ m, m < 64 → ∀ a, a < 6 → ∀ b, b < 6 → (((shr (nI m) (nI a) &&& shr (nI m) (nI b)) &&& 1 = 1) ↔ (bitN m a = 1 ∧ bitN m b = 1)) := by decide +kernel
theorem one_bit : ∀ m, m < 64 → ∀ a, a < 6 → ((shr (nI m) (nI a) &&& 1 = 1) ↔ bitN m a = 1) := by decide +kernel
theorem c_gaL {M : Mem} {m t a : Nat} (hm : m < 64) (ht : t < 20) (ha : a < 6) (z : Int32) (K : Int32 → Option Int32) : ∀ (n b : Nat), b ≤ 6 → 6 - b < n → f_X1_greatestPart_L18 (nI m) (nI t) z (nI a) M K n (nI (gaN m (fun x => M.1 (36 + x) t) a b)) (nI b) = K (nI (gaN m (fun x => M.1 (36 + x) t) a 6))
  | 0, b, _, h => by omega
  | n + 1, b, hb, hn => by
    rw [f_X1_greatestPart_L18, show (6 : Int32) = nI 6 from rfl, iteLe (by omega) (by omega)]
    by_cases e : 6 ≤ b
    · rw [if_pos e, show b = 6 by omega]
    · have ih := c_gaL (M := M) hm ht ha z K n (b + 1) (by omega) (by omega)
      rw [gaN] at ih
      rw [if_neg e, jn_e]
      simp only [grd_t (inb_t (show a < 6 by omega) (show 6 < 2147483648 by omega)), grd_t (inb_t (show b < 6 by omega) (show 6 < 2147483648 by omega)), grd_t (inb_t (show t < 20 by omega) (show 20 < 2147483648 by omega)), ixn (show a < 2147483648 by omega), ixn (show b < 2147483648 by omega), ixn (show t < 2147483648 by omega), show nI b + 1 = nI (b + 1) from nI_1 b, show nI (gaN m (fun x => M.1 (36 + x) t) a b) + 1 = nI (gaN m (fun x => M.1 (36 + x) t) a b + 1) from nI_1 _]
      by_cases g1 : bitN m a = 1 ∧ bitN m b = 1
      · rw [if_pos ((two_bits m hm a ha b (by omega)).mpr g1)]
        by_cases g2 : M.1 (36 + a) t = M.1 (36 + b) t
        · rw [if_pos g2]
          rw [if_pos ⟨g1.1, g1.2, g2⟩] at ih
          exact ih
        · rw [if_neg g2]
          rw [if_neg (fun q => g2 q.2.2), Nat.add_zero] at ih
          exact ih
      · rw [if_neg (fun q => g1 ((two_bits m hm a ha b (by omega)).mp q))]
        rw [if_neg (fun q => g1 ⟨q.1, q.2.1⟩), Nat.add_zero] at ih
        exact ih
theorem mxN {a b : Nat} (ha : a < 100) (hb : b < 100) : mxI (nI a) (nI b) = nI (if b ≤ a then a else b) := by
  unfold mxI
  rw [iteLt (by omega) (by omega)]
  by_cases e : b ≤ a
  · rw [if_neg (by omega), if_pos e]
  · rw [if_pos (by omega), if_neg e]
theorem c_grL {M : Mem} {m t : Nat} (hm : m < 64) (ht : t < 20) : ∀ (n a : Nat), a ≤ 6 → 6 - a < n → f_X1_greatestPart_L5 (nI m) (nI t) M n (nI (grN m (fun x => M.1 (36 + x) t) a)) (nI a) = some (nI (grN m (fun x => M.1 (36 + x) t) 6))
  | 0, a, _, h => by omega
  | n + 1, a, ha, hn => by
    obtain ⟨fu, hfu, hf2⟩ := FUx
    rw [f_X1_greatestPart_L5, show (6 : Int32) = nI 6 from rfl, iteLe (by omega) (by omega), ← hfu]
    by_cases e : 6 ≤ a
    · rw [if_pos e, show a = 6 by omega]
    · have ih := c_grL (M := M) hm ht n (a + 1) (by omega) (by omega)
      rw [grN] at ih
      have b1 := grN_le m (fun x => M.1 (36 + x) t) a
      have b2 := gaN_le m (fun x => M.1 (36 + x) t) a 6
      rw [if_neg e, jn_e, show nI a + 1 = nI (a + 1) from nI_1 a]
      refine (c_gaL (M := M) hm ht (show a < 6 by omega) _ _ fu 0 (by omega) (by omega)).trans ?_
      rw [mxN (by omega) (by omega)]
      exact ih
theorem c_gr {M : Mem} {m t : Nat} (hm : m < 64) (ht : t < 20) : f_X1_greatestPart (nI m) (nI t) M = some (nI (grN m (fun x => M.1 (36 + x) t) 6)) := by
  unfold f_X1_greatestPart
  obtain ⟨fu, hfu, hf2⟩ := FUx
  rw [← hfu]
  exact c_grL hm ht fu 0 (by omega) (by omega)
theorem m_gaL {M : Mem} {m a : Nat} (hm : m < 64) (ha : a < 6) (z : Int32) (K : Int32 → Option (Int32 × Mem)) : ∀ (n b : Nat), b ≤ 6 → 6 - b < n → f_X2_greatest_L83 (nI m) z (nI a) M K n (nI (gaN m (M.1 18) a b)) (nI b) = K (nI (gaN m (M.1 18) a 6))
  | 0, b, _, h => by omega
  | n + 1, b, hb, hn => by
    rw [f_X2_greatest_L83, show (6 : Int32) = nI 6 from rfl, iteLe (by omega) (by omega)]
    by_cases e : 6 ≤ b
    · rw [if_pos e, show b = 6 by omega]
    · have ih := m_gaL (M := M) hm ha z K n (b + 1) (by omega) (by omega)
      rw [gaN] at ih
      rw [if_neg e, jn_e, jn_e]
      simp only [grd_t (inb_t (show a < 6 by omega) (show 6 < 2147483648 by omega)), grd_t (inb_t (show b < 6 by omega) (show 6 < 2147483648 by omega)), ixn (show a < 2147483648 by omega), ixn (show b < 2147483648 by omega), show nI b + 1 = nI (b + 1) from nI_1 b, show nI (gaN m (M.1 18) a b) + 1 = nI (gaN m (M.1 18) a b + 1) from nI_1 _, show nI (gaN m (M.1 18) a b) + 0 = nI (gaN m (M.1 18) a b) from Int32.add_zero _]
      by_cases g1 : bitN m a = 1
      · rw [if_pos ((one_bit m hm a ha).mpr g1)]
        by_cases g3 : bitN m b = 1
        · rw [if_pos ((one_bit m hm b (by omega)).mpr g3)]
          by_cases g2 : M.1 18 a = M.1 18 b
          · rw [if_pos g2]
            rw [if_pos ⟨g1, g3, g2⟩] at ih
            exact ih
          · rw [if_neg g2]
            rw [if_neg (fun q => g2 q.2.2), Nat.add_zero] at ih
            exact ih
        · rw [if_neg (fun q => g3 ((one_bit m hm b (by omega)).mp q))]
          rw [if_neg (fun q => g3 q.2.1), Nat.add_zero] at ih
          exact ih
      · rw [if_neg (fun q => g1 ((one_bit m hm a ha).mp q))]
        rw [if_neg (fun q => g1 q.1), Nat.add_zero] at ih
        exact ih
theorem m_grL {M : Mem} {m : Nat} (hm : m < 64) : ∀ (n a : Nat), a ≤ 6 → 6 - a < n → f_X2_greatest_L70 (nI m) M n (nI (grN m (M.1 18) a)) (nI a) = some (nI (grN m (M.1 18) 6), M)
  | 0, a, _, h => by omega
  | n + 1, a, ha, hn => by
    obtain ⟨fu, hfu, hf2⟩ := FUx
    rw [f_X2_greatest_L70, show (6 : Int32) = nI 6 from rfl, iteLe (by omega) (by omega), ← hfu]
    by_cases e : 6 ≤ a
    · rw [if_pos e, show a = 6 by omega]
    · have ih := m_grL (M := M) hm n (a + 1) (by omega) (by omega)
      rw [grN] at ih
      have b1 := grN_le m (M.1 18) a
      have b2 := gaN_le m (M.1 18) a 6
      rw [if_neg e, jn_e, show nI a + 1 = nI (a + 1) from nI_1 a]
      refine (m_gaL (M := M) hm (show a < 6 by omega) _ _ fu 0 (by omega) (by omega)).trans ?_
      rw [jn_e, iteLe (by omega) (by omega)]
      by_cases g : gaN m (M.1 18) a 6 ≤ grN m (M.1 18) a
      · rw [if_pos g] at ih ⊢; exact ih
      · rw [if_neg g] at ih ⊢; exact ih
