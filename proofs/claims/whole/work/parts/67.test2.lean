theorem MKn.l {i : Nat} {Mm N : Mem} (h : MKn i Mm N) (x : Nat) (v : Int32) : MKn i Mm (sI N 18 x v) := ⟨h.1, fun a a5 a9 a17 a18 => (sI_n _ _ _ _ a18).trans (h.2.1 a a5 a9 a17 a18), fun x hx => by rw [sI_n _ _ _ _ (by omega)]; exact h.2.2 x hx⟩
theorem m_gkL {c : Cfg} {ds : Nat → Nat} {d i n0 : Nat} {Mc Mm Nm : Mem} (h0 : SimX c ds d Mc Mm) (hN : ∀ a, a ≠ 9 → a ≠ 17 → a ≠ 18 → Nm.1 a = Mm.1 a) (hi : i < c.1) (hn0 : n0 ≤ 20) (y z : Int32) (K : Mem → Option (Int32 × Mem)) : ∀ (n k : Nat) (M : Mem), k ≤ 6 → 6 - k < n → MKn i Nm M → (∀ x, x < k → M.1 18 x = nI (lkN c i (rpN c ds d) x n0)) → ∃ M', f_X2_greatest_L11 (nI i) y (nI n0) z K n (nI k) M = K M' ∧ MKn i Nm M' ∧ ∀ x, x < 6 → M'.1 18 x = nI (lkN c i (rpN c ds d) x n0)
  | 0, k, M, _, h, _, _ => by omega
  | n + 1, k, M, hk, hn, hF, hL => by
    have hc := h0.1.1
    have h7 := hc.1
    have ht := h0.t
    rw [f_X2_greatest_L11, show (6 : Int32) = nI 6 from rfl, iteLe (by omega) (by omega)]
    by_cases e : 6 ≤ k
    · rw [if_pos e]
      exact ⟨M, rfl, hF, fun x hx => hL x (by omega)⟩
    · have hck := okC_K (i := i) hc (show k ≤ 5 by omega)
      have h8 : stM Nm 8 c (rpN c ds d) := stM_of h0.1.2.2.2.2.2.2.1 (hN 0 (by omega) (by omega) (by omega)) (hN 8 (by omega) (by omega) (by omega)) (hN 5 (by omega) (by omega) (by omega)) (hN 6 (by omega) (by omega) (by omega)) (hN 7 (by omega) (by omega) (by omega))
      have p2 := hF.st (k := k) h8
      obtain ⟨P, p1, p3, p4⟩ := ms_asItIs hck p2
      have hP : MKn i Nm P := (hF.k (nI k)).fr p4
      obtain ⟨Q, u1, u2, u3⟩ := ms_goes (m := n0) hck (okS_K h0.okS i k) (by omega) (by omega) p3
      rw [if_neg e, grd_t (inb_t (show i < 7 by omega) (by omega)), ixn (by omega), lt_e, p1, bR_s, u1, bR_s, show (1 : Int32) + nI i = nI (1 + i) from addN 1 i, grd_t (inb_t (show 1 + i < 15 by omega) (by omega)), grd_t (inb_t (show k < 6 by omega) (by omega)), ixn (show 1 + i < 2147483648 by omega), ixn (show k < 2147483648 by omega), lt_e, (u2.2.2 i hi).2.2.2.1, show nI k + 1 = nI (k + 1) from nI_1 k]
      refine m_gkL h0 hN hi hn0 y z K n (k + 1) _ (by omega) (by omega) ((hP.fr u3).l k _) (fun x hx => ?_)
      rw [sI_1]
      by_cases g : x = k
      · rw [g, upd_same]; rfl
      · rw [upd_ne _ _ g, u3.2 18 (by omega) (by omega), p4.2 18 (by omega) (by omega), sI_n _ _ _ _ (by omega)]
        exact hL x (by omega)
theorem m_great {c : Cfg} {ds : Nat → Nat} {d i n0 m : Nat} {Mc Mm Nm : Mem} (h0 : SimX c ds d Mc Mm) (hN : ∀ a, a ≠ 9 → a ≠ 17 → a ≠ 18 → Nm.1 a = Mm.1 a) (hi : i < c.1) (hn0 : n0 ≤ 20) (hm : m < 64) : ∃ M', f_X2_greatest (nI i) (nI m) (nI n0) Nm = some (nI (grN m (fun x => nI (lkN c i (rpN c ds d) x n0)) 6), M') ∧ (∀ a, a ≠ 9 → a ≠ 17 → a ≠ 18 → M'.1 a = Nm.1 a) ∧ M'.2 = Nm.2 := by
  have h7 := h0.1.1.1
  unfold f_X2_greatest
  obtain ⟨fu, hfu, hf2⟩ := FUx
  rw [← hfu, grd_t (inb_t (show i < 7 by omega) (by omega)), jn_e, ixn (by omega)]
  obtain ⟨M', q1, q2, q3⟩ := m_gkL h0 hN hi hn0 (nI m) (Nm.1 5 i) (fun M => grd (inb (nI i) 7) (lt (sI M 5 i (Nm.1 5 i)) fun M63 => f_X2_greatest_L70 (nI m) M63 fu 0 0)) fu 0 Nm (by omega) (by omega) MKn.rf (fun x hx => by omega)
  rw [show f_X2_greatest_L11 (nI i) (nI m) (nI n0) (Nm.1 5 i) (fun M => grd (inb (nI i) 7) (lt (sI M 5 i (Nm.1 5 i)) fun M63 => f_X2_greatest_L70 (nI m) M63 fu 0 0)) fu 0 Nm = _ from q1, grd_t (inb_t (show i < 7 by omega) (by omega)), lt_e]
  have g := m_grL (M := sI M' 5 i (Nm.1 5 i)) hm fu 0 (by omega) (by omega)
  rw [show f_X2_greatest_L70 (nI m) (sI M' 5 i (Nm.1 5 i)) fu 0 0 = _ from g, grN_c (L' := fun x => nI (lkN c i (rpN c ds d) x n0)) (fun x hx => by rw [sI_n _ _ _ _ (by omega)]; exact q3 x hx) 6 (by omega)]
  exact ⟨_, rfl, q2.b⟩
theorem b_teL {c : Cfg} {ds : Nat → Nat} {d i m : Nat} {Mc Mm Nc : Mem} (h0 : SimX c ds d Mc Mm) (hi : i < c.1) (hm : m < 64) (hL : ∀ x, x < 6 → ∀ t, t < 20 → Nc.1 (36 + x) t = nI (lkN c i (rpN c ds d) x (t + 1))) (K1 : Int32 → Int32 → Option (Int32 × Mem)) (K2 : Int32 → Int32 → Mem → Option (Int32 × Mem)) (hK : ∀ a b Nm, Nm.2 = Mm.2 → (∀ a, a ≠ 9 → a ≠ 17 → a ≠ 18 → Nm.1 a = Mm.1 a) → Both (K1 a b) (K2 b a Nm)) : ∀ (n t : Nat) (a b b' : Int32) (Nm : Mem), t ≤ 20 → 20 - t < n → (a = 7 ∧ t = 0 ∨ b = b') → Nm.2 = Mm.2 → (∀ a, a ≠ 9 → a ≠ 17 → a ≠ 18 → Nm.1 a = Mm.1 a) → Both (f_X1_test_L68 (nI m) Nc K1 n a b (nI t)) (f_X2_test_L59 (nI i) (nI m) K2 n b' a (nI (t + 1)) Nm)
  | 0, t, a, b, b', Nm, _, h, _, _, _ => by omega
  | n + 1, t, a, b, b', Nm, ht, hn, hb, h2, hN => by
    rw [f_X1_test_L68, f_X2_test_L59, show (20 : Int32) = nI 20 from rfl, iteLe (by omega) (by omega), iteLt (by omega) (by omega)]
    by_cases e : 20 ≤ t
    · rw [if_pos e, if_pos (by omega)]
      rcases hb with ⟨_, hb⟩ | hb
      · omega
      · rw [hb]; exact hK _ _ _ h2 hN
    · obtain ⟨P, p1, p2, p3⟩ := m_great h0 hN hi (show t + 1 ≤ 20 by omega) hm
      rw [if_neg e, if_neg (by omega), c_gr hm (show t < 20 by omega), bR_s, p1, bI_s, grN_c (L' := fun x => nI (lkN c i (rpN c ds d) x (t + 1))) (fun x hx => hL x hx t (by omega)) 6 (by omega), show nI t + 1 = nI (t + 1) from nI_1 t]
      simp only [jn_e]
      have hg := grN_le m (fun x => nI (lkN c i (rpN c ds d) x (t + 1))) 6
      have go : ∀ (a b b' : Int32), b = b' → Both (f_X1_test_L68 (nI m) Nc K1 n a b (nI (t + 1))) (f_X2_test_L59 (nI i) (nI m) K2 n b' a (nI (t + 1) + 1) P) := by
        intro a b b' hbb
        rw [show nI (t + 1) + 1 = nI (t + 1 + 1) from nI_1 (t + 1)]
        exact b_teL h0 hi hm hL K1 K2 hK n (t + 1) a b b' P (by omega) (by omega) (Or.inr hbb) (p3.trans h2) (fun a a9 a17 a18 => (p2 a a9 a17 a18).trans (hN a a9 a17 a18))
      by_cases g : a ≤ nI (grN m (fun x => nI (lkN c i (rpN c ds d) x (t + 1))) 6)
      · rw [if_pos g, if_pos g, if_pos g]
        rcases hb with ⟨hb, _⟩ | hb
        · rw [hb] at g
          exact absurd ((nI_leI (a := 7) (by omega) (by omega)).mp g) (by omega)
        · exact go _ _ _ hb
      · rw [if_neg g, if_neg g, if_neg g]
        exact go _ _ _ rfl
theorem tt_test {Mc Mm : Mem} (h0 : Sim Mc Mm) (x y : Int32) : Both (f_X1_test x y Mc) (f_X2_test x y Mm) := by
  obtain ⟨c, ds, d, h⟩ := id h0
  have hc := h.1.1
  have h7 := hc.1
  unfold f_X1_test f_X2_test
  obtain ⟨fu, hfu, hf2⟩ := FUx
  rw [← hfu]
  rcases has_or h x with ⟨i, hi, rfl, e1, e2⟩ | ⟨e1, e2⟩
  · rw [e1, e2, bR_s, bR_s, if10, if10]
    rcases isRow_or y Mc Mm with ⟨r, hr, rfl, e3, e4⟩ | ⟨e3, e4⟩
    · rw [e3, e4, bR_s, bR_s, if10, if10]
      rcases lk_or h hr with ⟨s, hs, g1, g2, g3⟩ | ⟨f, f1, f5, g2, g3⟩
      · rw [g2, g3, bR_s, bR_s, if00, if00]
        obtain ⟨m, P1, P2, hm, q1, q2, q3⟩ := b_kinds h hi hr (show s ≤ 40 by omega) g1
        rw [q1, q2, bI_s, bI_s]
        by_cases em : m = 0
        · rw [if_pos (show nI m = 0 by rw [em]; rfl), if_pos (show nI m = 0 by rw [em]; rfl)]
          exact both_bad ⟨c, ds, d, q3⟩ _
        · rw [if_neg (nI_ne0 (by omega) (by omega)), if_neg (nI_ne0 (by omega) (by omega))]
          obtain ⟨Q, u1, u2, u3, u4⟩ := c_laK q3 hi fu 0 P1 (by omega) (by omega) rfl (fun _ _ => rfl) (fun x hx => by omega)
          rw [show f_X1_lookAhead (nI i) P1 = some Q by
            unfold f_X1_lookAhead
            rw [← hfu]; exact u1, bR_s, jn_e, jn_e]
          refine b_teL q3 hi hm u4 _ _ (fun a b Nm n2 nF => ?_) fu 0 7 (-9) 0 P2 (by omega) (by omega) (Or.inl ⟨rfl, rfl⟩) rfl (fun _ _ _ _ => rfl)
          exact both_told (q3.scr u2 u3 n2 (fun a ha => nF a (by omega) (by omega) (by omega)) (fun j _ => by rw [nF 0 (by omega) (by omega) (by omega)])) _ _
      · rw [g2, g3, bR_s, bR_s, if_neg (nI_ne0 (by omega) (by omega)), if_neg (nI_ne0 (by omega) (by omega))]
        exact both_ref h f1 f5
    · rw [e3, e4, bR_s, bR_s, if00, if00]
      exact both_bad h0 _
  · rw [e1, e2, bR_s, bR_s, if00, if00]
    exact both_bad h0 _
