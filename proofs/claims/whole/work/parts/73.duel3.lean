/-- but for what is tried all is as it was -/
def FrD (Mm M : Mem) : Prop := M.2 = Mm.2 ∧ ∀ a, a ≠ 9 → a ≠ 17 → a ≠ 19 → M.1 a = Mm.1 a
theorem FrD.rf {M : Mem} : FrD M M := ⟨rfl, fun _ _ _ _ => rfl⟩
theorem FrD.fr {Mm M P : Mem} (h : FrD Mm M) (g : FrM 9 M P) : FrD Mm P := ⟨g.1.trans h.1, fun a a9 a17 a19 => (g.2 a a9 a17).trans (h.2 a a9 a17 a19)⟩
theorem FrD.w {Mm M : Mem} (h : FrD Mm M) (i : Nat) (v : Int32) : FrD Mm (sI M 19 i v) := ⟨h.1, fun a a9 a17 a19 => (sI_n _ _ _ _ a19).trans (h.2 a a9 a17 a19)⟩
section DU
variable {c : Cfg} {ds : Nat → Nat} {d T : Nat} {Mc Mm : Mem}
theorem m_tab (h0 : SimX c ds d Mc Mm) (hT : T ≤ 3) (K : Mem → Option (Int32 × Mem)) : ∀ (n q : Nat) (M : Mem), q ≤ 8 ^ T → 8 ^ T - q < n → FrD Mm M → (∀ p, p < q → okP c.1 T p → M.1 19 p = vlI c (rpN c ds d) 0 T (eP (enN (rpN c ds d).2.1 c.1) T p)) → ∃ M', f_X2_duel_L23 (nI T) K n (nI q) M = K M' ∧ FrD Mm M' ∧ ∀ p, p < 8 ^ T → okP c.1 T p → M'.1 19 p = vlI c (rpN c ds d) 0 T (eP (enN (rpN c ds d).2.1 c.1) T p)
  | 0, q, M, _, h, _, _ => by omega
  | n + 1, q, M, hq, hn, hF, hM => by
    have h8 := p8 hT
    rw [f_X2_duel_L23, show (3 : Int32) * nI T = nI (3 * T) from mulN 3 T, show shl 1 (nI (3 * T)) = nI (1 * 2 ^ (3 * T)) from shlN (n := 1) (by omega) (by rw [pow8]; omega), Nat.one_mul, pow8, iteLe (by omega) (by omega)]
    by_cases e : 8 ^ T ≤ q
    · rw [if_pos e]
      exact ⟨M, rfl, hF, fun p hp => hM p (by omega)⟩
    · obtain ⟨r, P, p1, p2, p3⟩ := m_worth h0 hT (show q < 8 ^ T by omega) hF.2
      rw [if_neg e, p1, bI_s, grd_t (inb_t (show q < 512 by omega) (by omega)), ixn (by omega), lt_e, show nI q + 1 = nI (q + 1) from nI_1 q]
      refine m_tab h0 hT K n (q + 1) _ (by omega) (by omega) ((hF.fr p2).w q r) (fun p hp hok => ?_)
      rw [sI_1]
      by_cases g : p = q
      · rw [g, upd_same]
        rw [g] at hok
        exact p3 hok
      · rw [upd_ne _ _ g, p2.2 19 (by omega) (by omega)]
        exact hM p (by omega) hok
theorem mx_alt (x y : Int32) {α : Type} (k : Int32 → α) : (if y ≤ x then k x else k y) = k (mxI x y) := by
  unfold mxI
  by_cases h : y ≤ x
  · rw [if_pos h, if_neg (fun q => Int32.lt_irrefl (Int32.lt_of_lt_of_le q h))]
  · rw [if_neg h, if_pos (Int32.not_le.mp h)]
theorem mn_alt (x y : Int32) {α : Type} (k : Int32 → α) : (if y ≤ x then k y else k x) = k (mnI x y) := by
  unfold mnI
  by_cases h : y ≤ x
  · rw [if_pos h]
    by_cases h2 : y < x
    · rw [if_pos h2]
    · rw [if_neg h2, Int32.le_antisymm h (Int32.not_lt.mp h2)]
  · rw [if_neg h, if_neg (fun q => h (Int32.le_of_lt q))]
theorem m_foL {M : Mem} {N k q : Nat} (h4 : M.1 0 4 = nI N) (hN : N ≤ 7) (hk : k ≤ 2) (hq : q < 64) (K : Int32 → Option (Int32 × Mem)) : ∀ (n j : Nat), j ≤ N → N - j < n → f_X2_duel_L83 (nI k) (nI q) M K n (foN (decide (k % 2 = 0)) (fun j => M.1 19 (8 * q + (j + 1))) (M.1 19 (8 * q)) j) (nI (j + 1)) = K (foN (decide (k % 2 = 0)) (fun j => M.1 19 (8 * q + (j + 1))) (M.1 19 (8 * q)) N)
  | 0, j, _, h => by omega
  | n + 1, j, hj, hn => by
    rw [f_X2_duel_L83, h4, iteLt (by omega) (by omega)]
    by_cases e : N < j + 1
    · rw [if_pos e, show j = N by omega]
    · have ih := m_foL h4 hN hk hq K n (j + 1) (by omega) (by omega)
      rw [foN] at ih
      rw [if_neg e, show (8 : Int32) * nI q = nI (8 * q) from mulN 8 q, addN, grd_t (inb_t (show 8 * q + (j + 1) < 512 by omega) (by omega)), ixn (by omega), show irm (nI k) 2 = nI (k % 2) from irmN (d := 2) (by omega) (by omega) (by omega), show nI (j + 1) + 1 = nI (j + 1 + 1) from nI_1 (j + 1)]
      simp only [jn_e]
      by_cases ev : k % 2 = 0
      · rw [if_pos (show nI (k % 2) = 0 by rw [ev]; rfl), if_neg (show ¬ (1 : Int32) = 0 by decide)]
        first | rw [if_pos (show (1 : Int32) = 1 from rfl)] | rw [if_pos True.intro]
        rw [mx_alt _ _ (fun z => f_X2_duel_L83 (nI k) (nI q) M K n z (nI (j + 1 + 1)))]
        rw [if_pos (decide_eq_true ev)] at ih
        exact ih
      · rw [if_neg (nI_ne0 (by omega) (by omega)), if_neg (show ¬ (0 : Int32) = 1 by decide)]
        first | rw [if_pos (show (0 : Int32) = 0 from rfl)] | rw [if_pos True.intro]
        rw [mn_alt _ _ (fun z => f_X2_duel_L83 (nI k) (nI q) M K n z (nI (j + 1 + 1)))]
        rw [if_neg (show ¬ decide (k % 2 = 0) = true from fun w => ev (of_decide_eq_true w))] at ih
        exact ih
theorem m_lvL (h0 : SimX c ds d Mc Mm) (hT : T ≤ 3) {k : Nat} (hk : k < T) (K : Mem → Option (Int32 × Mem)) : ∀ (n q : Nat) (M : Mem), q ≤ 8 ^ k → 8 ^ k - q < n → FrD Mm M → (∀ p, p < q → okP c.1 k p → M.1 19 p = vlI c (rpN c ds d) (T - k) k (eP (enN (rpN c ds d).2.1 c.1) k p)) → (∀ p, q ≤ p → p < 8 ^ (k + 1) → okP c.1 (k + 1) p → M.1 19 p = vlI c (rpN c ds d) (T - (k + 1)) (k + 1) (eP (enN (rpN c ds d).2.1 c.1) (k + 1) p)) → ∃ M', f_X2_duel_L60 (nI k) K n (nI q) M = K M' ∧ FrD Mm M' ∧ ∀ p, p < 8 ^ k → okP c.1 k p → M'.1 19 p = vlI c (rpN c ds d) (T - k) k (eP (enN (rpN c ds d).2.1 c.1) k p)
  | 0, q, M, _, h, _, _, _ => by omega
  | n + 1, q, M, hq, hn, hF, hM, hM2 => by
    have hc := h0.1.1
    have h7 := hc.1
    have h8 := p8 hT
    have hk2 : 8 ^ k ≤ 8 ^ 2 := Nat.pow_le_pow_right (by decide) (by omega)
    have hk3 : 8 ^ (k + 1) = 8 ^ k * 8 := Nat.pow_succ ..
    have h4 : M.1 0 4 = nI c.1 := by rw [hF.2 0 (by omega) (by omega) (by omega)]; exact h0.1.2.2.2.2.2.2.1.1
    obtain ⟨fu, hfu, hf2⟩ := FUx
    rw [f_X2_duel_L60, show (3 : Int32) * nI k = nI (3 * k) from mulN 3 k, show shl 1 (nI (3 * k)) = nI (1 * 2 ^ (3 * k)) from shlN (n := 1) (by omega) (by rw [pow8]; omega), Nat.one_mul, pow8, iteLe (by omega) (by omega), ← hfu]
    by_cases e : 8 ^ k ≤ q
    · rw [if_pos e]
      exact ⟨M, rfl, hF, fun p hp => hM p (by omega)⟩
    · rw [if_neg e, show (8 : Int32) * nI q = nI (8 * q) from mulN 8 q, grd_t (inb_t (show 8 * q < 512 by omega) (by omega)), ixn (show 8 * q < 2147483648 by omega), jn_e, show nI q + 1 = nI (q + 1) from nI_1 q]
      have z := m_foL h4 h7 (show k ≤ 2 by omega) (show q < 64 by omega) (fun v4_147x => grd (inb (nI q) 512) (lt (sI M 19 (ix (nI q)) v4_147x) fun M154 => f_X2_duel_L60 (nI k) K n (nI (q + 1)) M154)) fu 0 (by omega) (by omega)
      have z2 : f_X2_duel_L83 (nI k) (nI q) M (fun v4_147x => grd (inb (nI q) 512) (lt (sI M 19 (ix (nI q)) v4_147x) fun M154 => f_X2_duel_L60 (nI k) K n (nI (q + 1)) M154)) fu (M.1 19 (8 * q)) 1 = _ := z
      rw [z2, grd_t (inb_t (show q < 512 by omega) (by omega)), ixn (by omega), lt_e]
      refine m_lvL h0 hT hk K n (q + 1) _ (by omega) (by omega) (hF.w q _) (fun p hp hok => ?_) (fun p hp hp2 hok => ?_)
      · rw [sI_1]
        by_cases g : p = q
        · rw [g, upd_same]
          rw [g] at hok
          have okd : ∀ g, g ≤ c.1 → okP c.1 (k + 1) (8 * q + g) ∧ eP (enN (rpN c ds d).2.1 c.1) (k + 1) (8 * q + g) = mvd k g (eP (enN (rpN c ds d).2.1 c.1) k q) := by
            intro g hg
            have e1 : (8 * q + g) % 8 = g := by omega
            have e2 : (8 * q + g) / 8 = q := by omega
            refine ⟨⟨by rw [e1]; exact hg, by rw [e2]; exact hok⟩, ?_⟩
            rw [eP, e1, e2]
          have v0 : M.1 19 (8 * q) = vlI c (rpN c ds d) (T - (k + 1)) (k + 1) (eP (enN (rpN c ds d).2.1 c.1) k q) := by
            have w := okd 0 (by omega)
            have w2 : eP (enN (rpN c ds d).2.1 c.1) (k + 1) (8 * q) = mvd k 0 (eP (enN (rpN c ds d).2.1 c.1) k q) := w.2
            rw [hM2 (8 * q) (by omega) (by omega) w.1, w2]; rfl
          have vj : ∀ j, j < c.1 → M.1 19 (8 * q + (j + 1)) = vlI c (rpN c ds d) (T - (k + 1)) (k + 1) (mv k j (eP (enN (rpN c ds d).2.1 c.1) k q)) := by
            intro j hj
            have w := okd (j + 1) (by omega)
            rw [hM2 _ (by omega) (by omega) w.1, w.2]; rfl
          rw [v0, foN_c (g' := fun j => vlI c (rpN c ds d) (T - (k + 1)) (k + 1) (mv k j (eP (enN (rpN c ds d).2.1 c.1) k q))) vj, show T - k = (T - (k + 1)) + 1 by omega]
          rfl
        · rw [upd_ne _ _ g]
          exact hM p (by omega) hok
      · rw [sI_1, upd_ne _ _ (by omega)]
        exact hM2 p (by omega) hp2 hok
theorem m_lv (h0 : SimX c ds d Mc Mm) (hT : T ≤ 3) (K : Mem → Option (Int32 × Mem)) : ∀ (n k : Nat) (M : Mem), k ≤ T → k < n → FrD Mm M → (∀ p, p < 8 ^ k → okP c.1 k p → M.1 19 p = vlI c (rpN c ds d) (T - k) k (eP (enN (rpN c ds d).2.1 c.1) k p)) → ∃ M', f_X2_duel_L54 K n (nI k - 1) M = K M' ∧ FrD Mm M' ∧ M'.1 19 0 = vlI c (rpN c ds d) T 0 (enN (rpN c ds d).2.1 c.1)
  | 0, k, M, _, h, _, _ => by omega
  | n + 1, k, M, hk, hn, hF, hM => by
    obtain ⟨fu, hfu, hf2⟩ := FUx
    rw [f_X2_duel_L54, ← hfu]
    cases k with
    | zero =>
      rw [if_pos (show nI 0 - 1 < 0 by decide)]
      exact ⟨M, rfl, hF, hM 0 (by decide) True.intro⟩
    | succ k =>
      rw [show nI (k + 1) - 1 = nI k from subN (b := 1) (by omega), if_neg (nI_pos (by omega)), jn_e]
      have h8 : 8 ^ k ≤ 8 ^ 3 := Nat.pow_le_pow_right (by decide) (by omega)
      obtain ⟨P, p1, p2, p3⟩ := m_lvL h0 hT (show k < T by omega) (fun M_161x => f_X2_duel_L54 K n (nI k + (-1)) M_161x) fu 0 M (Nat.zero_le _) (by omega) hF (fun p hp => by omega) (fun p _ hp hok => hM p hp hok)
      rw [show f_X2_duel_L60 (nI k) (fun M_161x => f_X2_duel_L54 K n (nI k + (-1)) M_161x) fu 0 M = _ from p1, show nI k + (-1) = nI k - 1 from (Int32.sub_eq_add_neg _ _).symm]
      exact m_lv h0 hT K n k P (by omega) (by omega) p2 p3
end DU
theorem tt_duel {Mc Mm : Mem} (h0 : Sim Mc Mm) (x : Int32) : Both (f_X1_duel x Mc) (f_X2_duel x Mm) := by
  obtain ⟨c, ds, d, h⟩ := id h0
  have hc := h.1.1
  have h7 := hc.1
  unfold f_X1_duel f_X2_duel
  obtain ⟨fu, hfu, hf2⟩ := FUx
  rw [← hfu]
  rcases in_rng x 0 3 (by omega) (by omega) Mc Mm with ⟨T, -, hT, rfl, e1, e2⟩ | ⟨e1, e2⟩
  · rw [show f_X1_isWithin (nI T) 0 3 Mc = some 1 from e1, show f_X2_in (nI T) 0 3 Mm = some 1 from e2, bR_s, bR_s, if10, if10, h.1.2.2.2.1.1, h.1.2.2.2.2.2.2.1.1]
    by_cases en : c.1 = 0
    · rw [if_pos (show nI c.1 = 0 by rw [en]; rfl), if_pos (show nI c.1 = 0 by rw [en]; rfl)]
      exact both_bad h0 _
    · have h8 := p8 hT
      have h1 := enN_lt (rpN c ds d).2.1 c.1
      have h2 := en128 h7
      rw [if_neg (nI_ne0 (by omega) (by omega)), if_neg (nI_ne0 (by omega) (by omega)), c_ends h.1.2.2.2.1 hc h.okS, bR_s]
      obtain ⟨P1, p1, p2⟩ := c_pl h hT T 5 0 (enN (rpN c ds d).2.1 c.1) Mc (by omega) (by omega) (by omega) Fr.rf
      rw [show f_X1_playOut 5 (nI (enN (rpN c ds d).2.1 c.1)) 0 (nI T) Mc = _ from p1, bI_s, jn_e]
      obtain ⟨Q, q1, q2, q3⟩ := m_tab h hT (fun M_50x => jn (fun k167 => f_X2_duel_L54 k167 fu (nI T - 1) M_50x) fun M_167x => grd (inb 0 512) (some (M_167x.1 19 (ix 0), M_167x))) fu 0 Mm (Nat.zero_le _) (by omega) FrD.rf (fun p hp => by omega)
      rw [show f_X2_duel_L23 (nI T) (fun M_50x => jn (fun k167 => f_X2_duel_L54 k167 fu (nI T - 1) M_50x) fun M_167x => grd (inb 0 512) (some (M_167x.1 19 (ix 0), M_167x))) fu 0 Mm = _ from q1, jn_e]
      obtain ⟨R, r1, r2, r3⟩ := m_lv h hT (fun M_167x => grd (inb 0 512) (some (M_167x.1 19 (ix 0), M_167x))) fu T Q (by omega) (by omega) q2 (fun p hp hok => by rw [Nat.sub_self]; exact q3 p hp hok)
      rw [r1, grd_t (in0 (by omega) (by omega)), ix0, r3]
      exact ⟨_, _, _, rfl, rfl, c, ds, d, h.scr p2.1 (fun a ha => p2.2 a (by omega)) r2.1 (fun a ha => r2.2 a (by omega) (by omega) (by omega)) (fun j _ => by rw [r2.2 0 (by omega) (by omega) (by omega)])⟩
  · rw [show f_X1_isWithin x 0 3 Mc = some 0 from e1, show f_X2_in x 0 3 Mm = some 0 from e2, bR_s, bR_s, if00, if00]
    exact both_bad h0 _
