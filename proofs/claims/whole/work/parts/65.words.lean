/-! which word it was -/
def ctN (p : Nat → Bool) : Nat → Nat
  | 0 => 0
  | v + 1 => ctN p v + if p v = true then 1 else 0
def fsN (p : Nat → Bool) : Nat → Nat
  | 0 => 0
  | v + 1 => if p v = true then (if ctN p v = 0 then v else fsN p v) else fsN p v
theorem ctN_le (p : Nat → Bool) : ∀ v, ctN p v ≤ v
  | 0 => Nat.le_refl _
  | v + 1 => by
    have h := ctN_le p v
    rw [ctN]
    split <;> omega
theorem fsN_le (p : Nat → Bool) : ∀ v, fsN p v ≤ v
  | 0 => Nat.le_refl _
  | v + 1 => by
    have h := fsN_le p v
    rw [fsN]
    repeat' split
    all_goals omega
theorem fsN_spec (p : Nat → Bool) : ∀ v, (ctN p v = 0 → fsN p v = 0 ∧ ∀ w, w < v → p w = false) ∧ (ctN p v ≠ 0 → p (fsN p v) = true ∧ ∀ w, w < fsN p v → p w = false)
  | 0 => ⟨fun _ => ⟨rfl, fun w hw => by omega⟩, fun h => absurd rfl h⟩
  | v + 1 => by
    obtain ⟨h1, h2⟩ := fsN_spec p v
    rw [ctN, fsN]
    by_cases g : p v = true
    · rw [if_pos g, if_pos g]
      refine ⟨fun q => by omega, fun _ => ?_⟩
      by_cases e : ctN p v = 0
      · rw [if_pos e]; exact ⟨g, (h1 e).2⟩
      · rw [if_neg e]; exact h2 e
    · rw [if_neg g, if_neg g]
      refine ⟨fun q => ⟨(h1 (by omega)).1, fun w hw => ?_⟩, fun q => h2 (by omega)⟩
      by_cases e : w = v
      · rw [e]; exact Bool.eq_false_iff.mpr g
      · exact (h1 (by omega)).2 w (by omega)
theorem c_woL {c : Cfg} {ds : Nat → Nat} {d i r s : Nat} {Mc Mm : Mem} (h0 : SimX c ds d Mc Mm) (hi : i < c.1) (hr : r < 6) (hs : s ≤ 40) (h8 : Mc.1 8 r = nI s) (p : Nat → Bool) (hp : ∀ v, p v = hdB c i (Mc.1 (2 + r)) s 60 0 (swN (rpN c ds d) i v)) (K : Int32 → Int32 → Mem → Option (Int32 × Mem)) : ∀ (n v : Nat) (M : Mem), v ≤ 2 ^ c.2.2.1 i → 2 ^ c.2.2.1 i - v < n → Fr 22 Mc M → ∃ M', f_X1_words_L45 (nI i) (nI r) K n (nI (fsN p v)) (nI (ctN p v)) (nI v) M = K (nI (fsN p (2 ^ c.2.2.1 i))) (nI (ctN p (2 ^ c.2.2.1 i))) M' ∧ Fr 22 Mc M'
  | 0, v, M, _, h, _ => by omega
  | n + 1, v, M, hv, hn, hF => by
    have hc := h0.1.1
    have h7 := hc.1
    have ht := h0.t
    have h9 := (hc.2 i hi).2.2.1
    have hp9 : 2 ^ c.2.2.1 i ≤ 2 ^ 9 := Nat.pow_le_pow_right (by decide) h9
    have hct := ctN_le p v
    have h15 : stC M 15 c (rpN c ds d) := stC_of h0.1.2.2.2.1 (hF.2 15 (by omega)) (fun j j1 j2 => hF.2 (15 + j) (by omega))
    rw [f_X1_words_L45, show (511 : Int32) = nI 511 from rfl, iteLt (by omega) (by omega), cs_canHave h15 hc hi (by omega), bR_s]
    by_cases e : v < 2 ^ c.2.2.1 i
    · rw [if_neg (show ¬ 511 < v by omega), if_pos e, if10]
      obtain ⟨P, p1, p2, p3⟩ := cs_take (Or.inl ⟨rfl, rfl⟩) hc h15
      have q2 := stC_sw p2 i v
      have hF2 : Fr 22 Mc (sI P (22 + 4) i (nI v)) := (hF.tr p3).tr (Fr.set (o := 22) (j := 4) (by omega))
      obtain ⟨Q, u1, u2⟩ := cs_isHeard (r := r) (s := s) hc hi hr hs q2 (okS_sw h0.okS e) (by show (rpN c ds d).1 < 800; omega) (by rw [hF2.2 8 (by omega)]; exact h8)
      rw [hF2.2 (2 + r) (by omega), ← hp v] at u1
      rw [p1, bR_s, grd_t (inb_t (show i < 7 by omega) (by omega)), ixn (by omega), lt_e, u1, bI_s, jn_e, show nI v + 1 = nI (v + 1) from nI_1 v]
      have ih := c_woL h0 hi hr hs h8 p hp K n (v + 1) Q (by omega) (by omega) (hF2.tr u2)
      rw [ctN, fsN] at ih
      by_cases g : p v = true
      · rw [if_pos g, if_pos g] at ih
        rw [if_pos g, if10, jn_e, show nI (ctN p v) + 1 = nI (ctN p v + 1) from nI_1 _]
        by_cases e0 : ctN p v = 0
        · rw [if_pos e0] at ih
          rw [if_pos (show nI (ctN p v) = 0 by rw [e0]; rfl)]
          exact ih
        · rw [if_neg e0] at ih
          rw [if_neg (nI_ne0 (by omega) (by omega))]
          exact ih
      · rw [if_neg g, if_neg g, Nat.add_zero] at ih
        rw [if_neg g, if00]
        exact ih
    · have ev : v = 2 ^ c.2.2.1 i := by omega
      rw [if_neg e, if00, ev]
      refine ⟨M, ?_, hF⟩
      split <;> rfl
theorem m_woL {c : Cfg} {ds : Nat → Nat} {d i r s : Nat} {Mc Mm : Mem} (h0 : SimX c ds d Mc Mm) (hi : i < c.1) (hr : r < 6) (hs : s ≤ 40) (h8 : Mc.1 8 r = nI s) (p : Nat → Bool) (hp : ∀ v, p v = hdB c i (Mc.1 (2 + r)) s 60 0 (swN (rpN c ds d) i v)) (K : Int32 → Int32 → Mem → Option (Int32 × Mem)) : ∀ (n v a b : Nat) (M : Mem), v ≤ 2 ^ c.2.2.1 i → v < n → FrM 9 Mm M → a + ctN p v = ctN p (2 ^ c.2.2.1 i) → (a = 0 → b = 0) → (a ≠ 0 → p b = true ∧ ∀ w, v ≤ w → w < b → p w = false) → ∃ a' b' M', f_X2_words_L51 (nI i) (nI r) K n (nI a) (nI b) (nI v - 1) M = K (nI a') (nI b') M' ∧ FrM 9 Mm M' ∧ a' = ctN p (2 ^ c.2.2.1 i) ∧ (a' = 0 → b' = 0) ∧ (a' ≠ 0 → p b' = true ∧ ∀ w, w < b' → p w = false)
  | 0, v, a, b, M, _, h, _, _, _, _ => by omega
  | n + 1, v, a, b, M, hv, hn, hF, h1, h2, h3 => by
    have hc := h0.1.1
    have h7 := hc.1
    have ht := h0.t
    have h9 := (hc.2 i hi).2.2.1
    have hp9 : 2 ^ c.2.2.1 i ≤ 2 ^ 9 := Nat.pow_le_pow_right (by decide) h9
    obtain ⟨s1, s2, s3⟩ := h0.2.2.1 r hr
    rw [f_X2_words_L51]
    cases v with
    | zero =>
      rw [if_pos (show nI 0 - 1 < 0 by decide)]
      exact ⟨a, b, M, rfl, hF, h1, h2, fun q => ⟨(h3 q).1, fun w hw => (h3 q).2 w (by omega) hw⟩⟩
    | succ v =>
      have e : v < 2 ^ c.2.2.1 i := by omega
      have hm8 : stM M 8 c (rpN c ds d) := stM_of h0.1.2.2.2.2.2.2.1 (hF.2 0 (by omega) (by omega)) (hF.2 8 (by omega) (by omega)) (hF.2 5 (by omega) (by omega)) (hF.2 6 (by omega) (by omega)) (hF.2 7 (by omega) (by omega))
      obtain ⟨P, p1, p3, p4⟩ := ms_asItIs hc hm8
      have q2 := stM_sw (Or.inr rfl) hc p3 hi v
      have hF2 : FrM 9 Mm (sI P 9 (1 + i) (nI v)) := (hF.tr p4).tr ⟨rfl, fun a ha _ => sI_n _ _ _ _ ha⟩
      obtain ⟨Q, u1, u2⟩ := ms_isHeard (r := r) (s := s) (R := Mc.1 (2 + r)) hc hi hr hs q2 (okS_sw h0.okS e) (by show (rpN c ds d).1 < 800; omega) (by rw [hF2.2 1 (by omega) (by omega), ← s1]; exact h8) (fun x hx => by rw [hF2.2 2 (by omega) (by omega)]; exact (s3 x (by omega)).symm)
      rw [← hp v] at u1
      rw [show nI (v + 1) - 1 = nI v from subN (b := 1) (by omega), if_neg (nI_pos (by omega)), p1, bR_s, show (1 : Int32) + nI i = nI (1 + i) from addN 1 i, grd_t (inb_t (show 1 + i < 15 by omega) (by omega)), ixn (by omega), lt_e, u1, bI_s, jn_e, show nI v + (-1) = nI v - 1 from (Int32.sub_eq_add_neg _ _).symm]
      rw [ctN] at h1
      by_cases g : p v = true
      · rw [if_pos g] at h1
        rw [if_pos g, if10, show nI a + 1 = nI (a + 1) from nI_1 a]
        exact m_woL h0 hi hr hs h8 p hp K n v (a + 1) v Q (by omega) (by omega) (hF2.tr u2) (by omega) (fun q => by omega) (fun _ => ⟨g, fun w w1 w2 => by omega⟩)
      · rw [if_neg g] at h1
        rw [if_neg g, if00]
        refine m_woL h0 hi hr hs h8 p hp K n v a b Q (by omega) (by omega) (hF2.tr u2) (by omega) h2 (fun q => ⟨(h3 q).1, fun w w1 w2 => ?_⟩)
        by_cases ew : w = v
        · rw [ew]; exact Bool.eq_false_iff.mpr g
        · exact (h3 q).2 w (by omega) w2
theorem tt_words {Mc Mm : Mem} (h0 : Sim Mc Mm) (x y : Int32) : Both (f_X1_words x y Mc) (f_X2_words x y Mm) := by
  obtain ⟨c, ds, d, h⟩ := id h0
  have hc := h.1.1
  have h7 := hc.1
  unfold f_X1_words f_X2_words
  obtain ⟨fu, hfu, hf2⟩ := FUx
  rw [← hfu]
  rcases has_or h x with ⟨i, hi, rfl, e1, e2⟩ | ⟨e1, e2⟩
  · rw [e1, e2, bR_s, bR_s, if10, if10]
    rcases isRow_or y Mc Mm with ⟨r, hr, rfl, e3, e4⟩ | ⟨e3, e4⟩
    · rw [e3, e4, bR_s, bR_s, if10, if10]
      rcases lk_or h hr with ⟨s, hs, g1, g2, g3⟩ | ⟨f, f1, f5, g2, g3⟩
      · have h9 := (hc.2 i hi).2.2.1
        have hp9 : 2 ^ c.2.2.1 i ≤ 2 ^ 9 := Nat.pow_le_pow_right (by decide) h9
        rw [g2, g3, bR_s, bR_s, if00, if00, jn_e, grd_t (inb_t (show i < 7 by omega) (by omega)), jn_e, ixn (by omega), (h.1.2.2.2.2.2.2.1.2.2 i hi).2.1, show shl 1 (nI (c.2.2.1 i)) = nI (1 * 2 ^ c.2.2.1 i) from shlN (n := 1) (by omega) (by omega), Nat.one_mul]
        obtain ⟨p, hp⟩ : ∃ p : Nat → Bool, ∀ v, p v = hdB c i (Mc.1 (2 + r)) s 60 0 (swN (rpN c ds d) i v) := ⟨_, fun _ => rfl⟩
        obtain ⟨P1, p1, p2⟩ := c_woL h hi hr (show s ≤ 40 by omega) g1 p hp (fun v4 v5 M => if v5 = 0 then some (-9, M) else lt (sI M 0 13 v4) fun M131 => some (v5, M131)) fu 0 Mc (Nat.zero_le _) (by omega) Fr.rf
        obtain ⟨a, b, P2, q1, q2, q3, q4, q5⟩ := m_woL h hi hr (show s ≤ 40 by omega) g1 p hp (fun v4 v5 M => if v4 = 0 then some (-9, M) else bI (f_X2_tells v5 v4 M) fun r107 M107 => some (r107, M107)) fu (2 ^ c.2.2.1 i) 0 0 Mm (by omega) (by omega) FrM.rf (by omega) (fun _ => rfl) (fun q => absurd rfl q)
        rw [show f_X1_words_L45 (nI i) (nI r) (fun v4 v5 M => if v5 = 0 then some (-9, M) else lt (sI M 0 13 v4) fun M131 => some (v5, M131)) fu 0 0 0 Mc = _ from p1, show f_X2_words_L51 (nI i) (nI r) (fun v4 v5 M => if v4 = 0 then some (-9, M) else bI (f_X2_tells v5 v4 M) fun r107 M107 => some (r107, M107)) fu 0 0 (nI (2 ^ c.2.2.1 i) - 1) Mm = _ from q1]
        have hS : SimX c ds d P1 P2 := scr_of h p2 q2
        obtain ⟨f1, f2⟩ := fsN_spec p (2 ^ c.2.2.1 i)
        have hle := ctN_le p (2 ^ c.2.2.1 i)
        by_cases e : ctN p (2 ^ c.2.2.1 i) = 0
        · rw [if_pos (show nI (ctN p (2 ^ c.2.2.1 i)) = 0 by rw [e]; rfl), if_pos (show nI a = 0 by rw [q3, e]; rfl)]
          exact both_bad ⟨c, ds, d, hS⟩ _
        · have hb : b = fsN p (2 ^ c.2.2.1 i) := by
            obtain ⟨t1, t2⟩ := q5 (by omega)
            obtain ⟨t3, t4⟩ := f2 e
            rcases Nat.lt_trichotomy b (fsN p (2 ^ c.2.2.1 i)) with w | w | w
            · rw [t4 b w] at t1; exact absurd t1 (by decide)
            · exact w
            · rw [t2 _ w] at t3; exact absurd t3 (by decide)
          rw [if_neg (nI_ne0 (by omega) (by omega)), if_neg (nI_ne0 (n := a) (by omega) (by omega)), hb, q3]
          exact both_told hS _ _
      · rw [g2, g3, bR_s, bR_s, if_neg (nI_ne0 (by omega) (by omega)), if_neg (nI_ne0 (by omega) (by omega))]
        exact both_ref h f1 f5
    · rw [e3, e4, bR_s, bR_s, if00, if00]
      exact both_bad h0 _
  · rw [e1, e2, bR_s, bR_s, if00, if00]
    exact both_bad h0 _
